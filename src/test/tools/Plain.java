import java.util.ArrayDeque;
import java.util.ArrayList;
import java.util.Deque;
import java.util.List;

/** The class over again, plainly: it follows the document word by word and counts by trying all. */
final class Plain {
    Leaf leaf = new Leaf();
    List<Integer> tape = new ArrayList<>();
    int fault = 0;
    int faultPlace = -1;
    List<Integer> ring = new ArrayList<>();
    Deque<Leaf> acts = new ArrayDeque<>();
    Object[] rows = new Object[4];

    // the text

    int feed(int a, int b, int c, int d, int e) {
        if (tape.size() + 20 > 900) {
            return -3;
        }
        for (int four : new int[] {a, b, c, d, e}) {
            tape.add(four >>> 24);
            tape.add(four >>> 16 & 255);
            tape.add(four >>> 8 & 255);
            tape.add(four & 255);
        }
        return tape.size();
    }

    int tell(int n) {
        if (n < 0 || n > tape.size()) {
            return -3;
        }
        StringBuilder text = new StringBuilder();
        for (int i = 0; i < n; i++) {
            text.append((char) (int) tape.get(i));
        }
        tape.clear();
        fault = 0;
        faultPlace = -1;
        try {
            Teller teller = new Teller(text.toString(), this);
            int lines = teller.readAll();
            leaf = teller.leaf;
            acts.clear();
            return lines;
        } catch (Fault found) {
            fault = found.code;
            faultPlace = found.place;
            return -30 - fault;
        }
    }

    int fault(int what) {
        return what == 0 ? fault : what == 1 ? faultPlace : -1;
    }

    // by hand

    private void act() {
        acts.addLast(leaf);
        leaf = leaf.copy();
        if (acts.size() > 12) {
            acts.removeFirst();
        }
    }

    int over(int a, int b) {
        int refusal = leaf.refusal(a, b);
        if (refusal == -105) {
            ring = leaf.ringOf(a, b);
            return -5;
        }
        if (refusal != 0) {
            return refusal;
        }
        act();
        leaf.told[a][b] = true;
        return leaf.twos();
    }

    int takes(int a, int b) {
        if (!leaf.has(a) || !leaf.has(b)) {
            return -2;
        }
        if (!leaf.told[a][b]) {
            return -5;
        }
        act();
        leaf.told[a][b] = false;
        return leaf.twos();
    }

    int hand(int stroke, int hand) {
        if (!leaf.has(stroke)) {
            return -2;
        }
        if (hand < -1 || hand > 1) {
            return -3;
        }
        Leaf then = leaf.copy();
        then.hands[stroke] = hand;
        if (then.ways().isEmpty()) {
            return -9;
        }
        act();
        int was = leaf.hands[stroke];
        leaf.hands[stroke] = hand;
        return was + 1;
    }

    int weigh(int letter, int weight) {
        if (letter < 0 || letter >= leaf.letters.size()) {
            return -2;
        }
        if (weight < 1 || weight > 99) {
            return -3;
        }
        act();
        int was = leaf.letters.get(letter)[2];
        leaf.letters.get(letter)[2] = weight;
        return was;
    }

    int undo() {
        if (acts.isEmpty()) {
            return -5;
        }
        leaf = acts.removeLast();
        return acts.size();
    }

    // strokes

    int stroke(int stroke, int what) {
        if (!leaf.has(stroke) || what < 0 || what > 9) {
            return -2;
        }
        if (what < 4) {
            return leaf.strokes.get(stroke)[what];
        }
        if (what == 4) {
            return leaf.hands[stroke] + 1;
        }
        if (what == 5) {
            return leaf.musts()[stroke];
        }
        if (what == 6) {
            return leaf.layer(stroke);
        }
        int bits = 0;
        for (int other = 0; other < leaf.n(); other++) {
            boolean in = what == 7 ? other != stroke && leaf.crossing(stroke, other) >= 0
                    : what == 8 ? leaf.over(stroke, other) : leaf.over(other, stroke);
            bits |= in ? 1 << other : 0;
        }
        return bits;
    }

    boolean two(int a, int b) {
        return leaf.has(a) && leaf.has(b) && a != b;
    }

    int crossing(int a, int b) {
        return two(a, b) ? leaf.crossing(a, b) : -2;
    }

    int ring(int i) {
        return i < 0 ? -3 : i < ring.size() ? ring.get(i) : -1;
    }

    int order(int i) {
        return i < 0 ? -3 : i < leaf.n() ? leaf.order().get(i) : -1;
    }

    long orders() {
        return new Rows(leaf).count();
    }

    /** Rows were the one told OVER the other: it comes behind that. */
    private static long ordersWith(Leaf leaf, int a, int b) {
        Leaf then = leaf.copy();
        then.told[a][b] = true;
        return then.hasRing() ? 0 : new Rows(then).count();
    }

    long ahead(int a, int b) {
        return two(a, b) ? ordersWith(leaf, b, a) : -2;
    }

    int ways() {
        return leaf.ways().size();
    }

    int layers() {
        int most = 0;
        for (int s = 0; s < leaf.n(); s++) {
            most = Math.max(most, leaf.layer(s) + 1);
        }
        return most;
    }

    // what shows

    boolean cell(int x, int y) {
        return x >= 0 && y >= 0 && x < leaf.wide && y < leaf.high;
    }

    int top(int x, int y) {
        return cell(x, y) ? leaf.top(x, y, -1, leaf.allOver()) : -2;
    }

    int seen(int x, int y) {
        return cell(x, y) ? leaf.seen(x, y, -1, leaf.allOver(), leaf.musts()) : -2;
    }

    boolean place(int place) {
        return place >= 0 && place < leaf.places.size();
    }

    boolean letter(int letter) {
        return letter >= 0 && letter < leaf.letters.size();
    }

    boolean run(int run) {
        return run >= 0 && run < leaf.runs.size();
    }

    int shows(int place, int what) {
        return place(place) && what >= 0 && what <= 2 ? leaf.shows(place, what, -1) : -2;
    }

    int fits(int place) {
        return place(place) ? leaf.fits(place, -1) : -2;
    }

    int sure(int place) {
        return place(place) ? leaf.sure(place) : -2;
    }

    int odds(int place, int letter) {
        return place(place) && letter(letter) ? Float.floatToRawIntBits(leaf.odds(place, letter)) : -2;
    }

    int guess(int place) {
        if (!place(place)) {
            return -2;
        }
        int best = -1;
        for (int k = leaf.letters.size() - 1; k >= 0; k--) {
            if ((leaf.sure(place) >> k & 1) == 1
                    && (best == -1 || leaf.letters.get(k)[2] >= leaf.letters.get(best)[2])) {
                best = k;
            }
        }
        return best;
    }

    List<Integer> wordsOf(int run) {
        List<Integer> fitting = new ArrayList<>();
        for (int word = 0; word < leaf.words.size(); word++) {
            if (leaf.wordFits(word, run)) {
                fitting.add(word);
            }
        }
        return fitting;
    }

    int words(int run, int k) {
        if (!run(run)) {
            return -2;
        }
        if (k < -1) {
            return -3;
        }
        List<Integer> fitting = wordsOf(run);
        return k == -1 ? fitting.size() : k < fitting.size() ? fitting.get(k) : -1;
    }

    int likely(int run) {
        if (!run(run)) {
            return -2;
        }
        int best = -1;
        long most = -1;
        for (int word : wordsOf(run)) {
            long product = 1;
            for (char name : leaf.words.get(word).toCharArray()) {
                product *= leaf.letters.get(leaf.named(name))[2];
            }
            if (product > most) {
                most = product;
                best = word;
            }
        }
        return best;
    }

    int reads(int i) {
        if (i < -1) {
            return -3;
        }
        StringBuilder text = new StringBuilder();
        for (int place = 0; place < leaf.places.size(); place++) {
            int sure = leaf.sure(place);
            int many = Integer.bitCount(sure);
            char one = '?';
            for (int k = 0; k < leaf.letters.size(); k++) {
                if (sure == 1 << k) {
                    one = (char) leaf.letters.get(k)[0];
                }
            }
            text.append(many > 1 ? '.' : one);
        }
        return i == -1 ? text.length() : i < text.length() ? text.charAt(i) : -1;
    }

    int letter(int letter, int what) {
        if (!letter(letter) || what < 0 || what > 3) {
            return -2;
        }
        if (what == 3) {
            int places = 0;
            for (int place = 0; place < leaf.places.size(); place++) {
                places += leaf.fits(place, -1) >> letter & 1;
            }
            return places;
        }
        return leaf.letters.get(letter)[what] - (what == 0 ? 96 : 0);
    }

    // what if

    long asking(int what) {
        if (what < 0 || what > 2) {
            return -2;
        }
        long[] best = {-1, -1, -1};
        for (int a = 0; a < leaf.n(); a++) {
            for (int b = a + 1; b < leaf.n(); b++) {
                if (leaf.crossing(a, b) >= 0 && !leaf.over(a, b) && !leaf.over(b, a)) {
                    long rows = Math.max(ordersWith(leaf, a, b), ordersWith(leaf, b, a));
                    if (best[2] == -1 || rows < best[2]) {
                        best = new long[] {a, b, rows};
                    }
                }
            }
        }
        return best[what];
    }

    int loose(int stroke) {
        return leaf.has(stroke) ? leaf.loose(stroke) : -2;
    }

    int scrape() {
        int best = -1;
        int most = 0;
        for (int s = 0; s < leaf.n(); s++) {
            int loose = leaf.loose(s);
            if (loose > most) {
                most = loose;
                best = s;
            }
        }
        return best;
    }

    int clearer(int place, int stroke) {
        return place(place) && leaf.has(stroke) ? Integer.bitCount(leaf.fits(place, stroke)) : -2;
    }

    long span(int stroke, int what) {
        if (!leaf.has(stroke) || what < 0 || what > 2) {
            return -2;
        }
        long first = -1;
        long last = -1;
        long sum = 0;
        for (int place = 0; place < leaf.n(); place++) {
            Rows held = new Rows(leaf);
            held.held = stroke;
            held.place = place;
            long rows = held.count();
            sum += rows * place;
            if (rows > 0) {
                first = first == -1 ? place : first;
                last = place;
            }
        }
        return what == 0 ? first : what == 1 ? last : 1000 * sum / orders();
    }

    int paired(int a, int b) {
        if (!two(a, b)) {
            return -2;
        }
        Rows behind = new Rows(leaf);
        behind.first = a;
        behind.second = b;
        Rows before = new Rows(leaf);
        before.first = b;
        before.second = a;
        return behind.count() + before.count() > 0 ? 1 : 0;
    }

    int likelihood(int run, int word) {
        if (!run(run) || word < 0 || word >= leaf.words.size()) {
            return -2;
        }
        if (!leaf.wordFits(word, run)) {
            return 0;
        }
        float product = 1;
        for (int i = 0; i < leaf.words.get(word).length(); i++) {
            int letter = leaf.named(leaf.words.get(word).charAt(i));
            product *= leaf.odds(leaf.runs.get(run)[0] + i, letter);
        }
        return Float.floatToRawIntBits(product);
    }

    int spoilt(int stroke, int hand) {
        if (!leaf.has(stroke)) {
            return -2;
        }
        if (hand < 0 || hand > 1) {
            return -3;
        }
        Leaf then = leaf.copy();
        then.hands[stroke] = hand;
        return then.ways().isEmpty() ? 100000 : 1000 + leaf.allFits() - then.allFits();
    }

    // rows

    boolean row(int row) {
        return row >= 0 && row < 4;
    }

    int[] numbers(int row) {
        if (rows[row] instanceof int[] ints) {
            return ints;
        }
        short[] shorts = (short[]) rows[row];
        int[] ints = new int[shorts.length];
        for (int i = 0; i < ints.length; i++) {
            ints[i] = shorts[i];
        }
        return ints;
    }

    int row(int row, int sort, int n) {
        if (!row(row)) {
            return -2;
        }
        if (sort < 0 || sort > 1 || n < 0 || n > 12) {
            return -3;
        }
        rows[row] = sort == 0 ? new short[n] : new int[n];
        return 0;
    }

    int write(int row, int place, int v) {
        if (!row(row)) {
            return -2;
        }
        if (rows[row] == null) {
            return -6;
        }
        if (place < 0 || place >= numbers(row).length) {
            return -7;
        }
        if (rows[row] instanceof int[] ints) {
            ints[place] = v;
        } else {
            ((short[]) rows[row])[place] = (short) v;
        }
        return numbers(row)[place];
    }

    int paste(int from, int place, int to, int at, int n) {
        if (!row(from) || !row(to)) {
            return -2;
        }
        if (rows[from] == null || rows[to] == null) {
            return -6;
        }
        if (rows[from].getClass() != rows[to].getClass()) {
            return -8;
        }
        try {
            System.arraycopy(rows[from], place, rows[to], at, n);
            return 0;
        } catch (IndexOutOfBoundsException e) {
            return -7;
        }
    }

    long mending(int row, int what) {
        if (!row(row) || what < 0 || what > 1) {
            return -2;
        }
        if (rows[row] == null) {
            return -6;
        }
        Leaf then = leaf.copy();
        int out = 0;
        int[] numbers = numbers(row);
        for (int k = 0; k < numbers.length / 2; k++) {
            if (then.refusal(numbers[2 * k], numbers[2 * k + 1]) == 0) {
                then.told[numbers[2 * k]][numbers[2 * k + 1]] = true;
            } else {
                out |= 1 << k;
            }
        }
        return what == 0 ? new Rows(then).count() : out;
    }

    int judge(int row) {
        if (!row(row)) {
            return -2;
        }
        if (rows[row] == null) {
            return -6;
        }
        int right = 0;
        for (int v : numbers(row)) {
            if (!place(right) || !letter(v) || (leaf.sure(right) >> v & 1) == 0) {
                break;
            }
            right++;
        }
        return right;
    }

    int count(int what) {
        int sum = 0;
        switch (what) {
            case 0: return leaf.n();
            case 1: return leaf.letters.size();
            case 2: return leaf.places.size();
            case 3: return leaf.words.size();
            case 4: return leaf.runs.size();
            case 5: return leaf.twos();
            case 6: return acts.size();
            case 7: return tape.size();
            case 8: return leaf.wide;
            case 9: return leaf.high;
            case 10:
                for (int place = 0; place < leaf.places.size(); place++) {
                    sum += Integer.bitCount(leaf.shows(place, 2, -1));
                }
                return sum;
            case 11:
                for (int a = 0; a < leaf.n(); a++) {
                    for (int b = 0; b < a; b++) {
                        sum += leaf.crossing(a, b) >= 0 ? 1 : 0;
                    }
                }
                return sum;
            case 12:
                for (Object row : rows) {
                    sum += row == null ? 0 : 1;
                }
                return sum;
            default: return -1;
        }
    }
}
