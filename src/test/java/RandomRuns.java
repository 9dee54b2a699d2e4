import java.util.ArrayDeque;
import java.util.ArrayList;
import java.util.Arrays;
import java.util.Deque;
import java.util.HashMap;
import java.util.List;
import java.util.Map;
import java.util.Random;

/** Runs of random calls, each answer held against a plain model that follows the document word by word. */
public final class RandomRuns {
    private static final int RUNS = 1500;
    private static final int CALLS = 512;

    private static final class Fault extends RuntimeException {
        private static final long serialVersionUID = 1L;
        final int code;
        final int place;

        Fault(int code, int place) {
            super(null, null, false, false);
            this.code = code;
            this.place = place;
        }
    }

    /** All that a text tells, copied whole for each ACT. */
    private static final class Leaf {
        int wide = 3;
        int high = 3;
        List<int[]> strokes = new ArrayList<>();
        int[] hands = new int[12];
        boolean[][] told = new boolean[12][12];
        List<int[]> letters = new ArrayList<>();
        List<int[]> places = new ArrayList<>();
        List<String> words = new ArrayList<>();
        List<int[]> runs = new ArrayList<>();

        Leaf() {
            Arrays.fill(hands, -1);
        }

        Leaf copy() {
            Leaf other = new Leaf();
            other.wide = wide;
            other.high = high;
            other.strokes.addAll(strokes);
            other.hands = hands.clone();
            for (int i = 0; i < 12; i++) {
                other.told[i] = told[i].clone();
            }
            for (int[] letter : letters) {
                other.letters.add(letter.clone());
            }
            other.places.addAll(places);
            other.words.addAll(words);
            other.runs.addAll(runs);
            return other;
        }

        int n() {
            return strokes.size();
        }

        boolean has(int stroke) {
            return stroke >= 0 && stroke < n();
        }

        List<int[]> cellsOf(int stroke) {
            int[] s = strokes.get(stroke);
            List<int[]> cells = new ArrayList<>();
            int x = s[0];
            int y = s[1];
            for (int i = 0; i < s[3]; i++) {
                cells.add(new int[] {x, y});
                x += s[2] == 0 || s[2] == 2 ? 1 : s[2] == 3 ? -1 : 0;
                y += s[2] == 0 ? 0 : 1;
            }
            return cells;
        }

        int crossing(int a, int b) {
            for (int[] one : cellsOf(a)) {
                for (int[] other : cellsOf(b)) {
                    if (one[0] == other[0] && one[1] == other[1]) {
                        return 100 * one[1] + one[0];
                    }
                }
            }
            return -1;
        }

        int twos() {
            int twos = 0;
            for (boolean[] row : told) {
                for (boolean one : row) {
                    twos += one ? 1 : 0;
                }
            }
            return twos;
        }

        boolean over(int a, int b) {
            for (int c = 0; c < n(); c++) {
                if (told[a][c] && (c == b || over(c, b))) {
                    return true;
                }
            }
            return false;
        }

        boolean[][] allOver() {
            boolean[][] all = new boolean[n()][n()];
            for (int a = 0; a < n(); a++) {
                for (int b = 0; b < n(); b++) {
                    all[a][b] = told[a][b];
                }
            }
            for (int c = 0; c < n(); c++) {
                for (int a = 0; a < n(); a++) {
                    for (int b = 0; b < n(); b++) {
                        all[a][b] |= all[a][c] && all[c][b];
                    }
                }
            }
            return all;
        }

        boolean hasRing() {
            boolean[][] all = allOver();
            for (int a = 0; a < n(); a++) {
                if (all[a][a]) {
                    return true;
                }
            }
            return false;
        }

        /** The rings through a and b, by trying all ways; the shortest, then the first. */
        List<Integer> ringOf(int a, int b) {
            List<Integer> way = new ArrayList<>(List.of(a, b));
            List<List<Integer>> best = new ArrayList<>();
            tryRings(way, a, best);
            return best.get(0);
        }

        private void tryRings(List<Integer> way, int a, List<List<Integer>> best) {
            int last = way.get(way.size() - 1);
            if (told[last][a] && (best.isEmpty() || way.size() < best.get(0).size())) {
                best.clear();
                best.add(new ArrayList<>(way));
            }
            if (!best.isEmpty() && way.size() >= best.get(0).size()) {
                return;
            }
            for (int next = 0; next < n(); next++) {
                if (told[last][next] && !way.contains(next)) {
                    way.add(next);
                    tryRings(way, a, best);
                    way.remove(way.size() - 1);
                }
            }
        }

        /** All WAYS of HANDS, each as bits of the upper strokes. */
        List<Integer> ways() {
            List<Integer> ways = new ArrayList<>();
            for (int upper = 0; upper < 1 << n(); upper++) {
                boolean good = true;
                for (int a = 0; a < n() && good; a++) {
                    int hand = upper >> a & 1;
                    good = hands[a] == -1 || hands[a] == hand;
                    for (int b = 0; b < n() && good; b++) {
                        good = !told[a][b] || hand == 1 || (upper >> b & 1) == 0;
                    }
                }
                if (good) {
                    ways.add(upper);
                }
            }
            return ways;
        }

        int[] musts() {
            int[] must = new int[n()];
            List<Integer> ways = ways();
            for (int s = 0; s < n(); s++) {
                int uppers = 0;
                for (int way : ways) {
                    uppers += way >> s & 1;
                }
                must[s] = uppers == 0 ? 0 : uppers == ways.size() ? 1 : 2;
            }
            return must;
        }

        int layer(int stroke) {
            int most = 0;
            for (int b = 0; b < n(); b++) {
                if (told[stroke][b]) {
                    most = Math.max(most, 1 + layer(b));
                }
            }
            return most;
        }

        List<Integer> order() {
            boolean[][] all = allOver();
            List<Integer> order = new ArrayList<>();
            while (order.size() < n()) {
                for (int s = 0; s < n(); s++) {
                    boolean ready = !order.contains(s);
                    for (int b = 0; b < n(); b++) {
                        ready &= !all[s][b] || order.contains(b);
                    }
                    if (ready) {
                        order.add(s);
                        break;
                    }
                }
            }
            return order;
        }

        List<Integer> strokesAt(int x, int y, int scraped) {
            List<Integer> there = new ArrayList<>();
            for (int s = 0; s < n(); s++) {
                for (int[] cell : cellsOf(s)) {
                    if (s != scraped && cell[0] == x && cell[1] == y) {
                        there.add(s);
                    }
                }
            }
            return there;
        }

        int top(int x, int y, int scraped, boolean[][] all) {
            List<Integer> there = strokesAt(x, y, scraped);
            for (int s : there) {
                boolean top = true;
                for (int other : there) {
                    top &= other == s || all[s][other];
                }
                if (top) {
                    return s;
                }
            }
            return -1;
        }

        int seen(int x, int y, int scraped, boolean[][] all, int[] must) {
            if (strokesAt(x, y, scraped).isEmpty()) {
                return 0;
            }
            int top = top(x, y, scraped, all);
            return top >= 0 && must[top] == 0 ? 1 : 2;
        }

        int[] looks(int place, int scraped) {
            boolean[][] all = allOver();
            int[] must = musts();
            int[] looks = new int[9];
            for (int r = 0; r < 3; r++) {
                for (int c = 0; c < 3; c++) {
                    looks[3 * r + c] = seen(places.get(place)[0] + c, places.get(place)[1] + r, scraped, all, must);
                }
            }
            return looks;
        }

        int shows(int place, int what, int scraped) {
            int[] looks = looks(place, scraped);
            int bits = 0;
            for (int i = 0; i < 9; i++) {
                bits |= looks[i] == what ? 1 << i : 0;
            }
            return bits;
        }

        int fits(int place, int scraped) {
            int[] looks = looks(place, scraped);
            int bits = 0;
            for (int k = 0; k < letters.size(); k++) {
                boolean good = true;
                for (int i = 0; i < 9; i++) {
                    boolean in = (letters.get(k)[1] >> i & 1) == 1;
                    good &= looks[i] == 2 || looks[i] == 1 && in || looks[i] == 0 && !in;
                }
                bits |= good ? 1 << k : 0;
            }
            return bits;
        }

        int named(char name) {
            for (int k = 0; k < letters.size(); k++) {
                if (letters.get(k)[0] == name) {
                    return k;
                }
            }
            return -1;
        }

        boolean wordFits(int word, int run) {
            String text = words.get(word);
            int[] places = runs.get(run);
            if (text.length() != places[1]) {
                return false;
            }
            for (int i = 0; i < text.length(); i++) {
                if ((fits(places[0] + i, -1) >> named(text.charAt(i)) & 1) == 0) {
                    return false;
                }
            }
            return true;
        }

        int sure(int place) {
            for (int run = 0; run < runs.size(); run++) {
                int i = place - runs.get(run)[0];
                if (i >= 0 && i < runs.get(run)[1]) {
                    int bits = 0;
                    for (int word = 0; word < words.size(); word++) {
                        if (wordFits(word, run)) {
                            bits |= 1 << named(words.get(word).charAt(i));
                        }
                    }
                    return bits;
                }
            }
            return fits(place, -1);
        }

        float odds(int place, int letter) {
            int sure = sure(place);
            if ((sure >> letter & 1) == 0) {
                return 0f;
            }
            int sum = 0;
            for (int k = 0; k < letters.size(); k++) {
                sum += (sure >> k & 1) * letters.get(k)[2];
            }
            return (float) letters.get(letter)[2] / (float) sum;
        }

        int allFits() {
            int all = 0;
            for (int place = 0; place < places.size(); place++) {
                all += Integer.bitCount(fits(place, -1));
            }
            return all;
        }

        int loose(int stroke) {
            int loose = 0;
            for (int place = 0; place < places.size(); place++) {
                loose += Integer.bitCount(shows(place, 2, -1) & ~shows(place, 2, stroke));
            }
            return loose;
        }

        int refusal(int a, int b) {
            if (!has(a) || !has(b)) {
                return -2;
            }
            if (a == b || crossing(a, b) == -1 || told[a][b]) {
                return -5;
            }
            told[a][b] = true;
            boolean ring = hasRing();
            boolean none = !ring && ways().isEmpty();
            told[a][b] = false;
            return ring ? -105 : none ? -9 : 0;
        }
    }

    /** Counts rows of ORDERS, with one stroke held to a place, or one right behind another. */
    private static final class Rows {
        final Leaf leaf;
        int held = -1;
        int place = -1;
        int first = -1;
        int second = -1;
        private final Map<Integer, Long> known = new HashMap<>();

        Rows(Leaf leaf) {
            this.leaf = leaf;
        }

        long count() {
            return leaf.n() <= 6 ? countRows(new ArrayList<>()) : countSets(0, 12);
        }

        private boolean may(int set, int at, int last, int next) {
            if ((set >> next & 1) == 1 || next == held && at != place || at == place && held >= 0 && next != held
                    || next == second && last != first) {
                return false;
            }
            for (int b = 0; b < leaf.n(); b++) {
                if (leaf.told[next][b] && (set >> b & 1) == 0) {
                    return false;
                }
            }
            return true;
        }

        private long countRows(List<Integer> row) {
            if (row.size() == leaf.n()) {
                return 1;
            }
            int set = 0;
            for (int s : row) {
                set |= 1 << s;
            }
            long sum = 0;
            for (int s = 0; s < leaf.n(); s++) {
                if (may(set, row.size(), row.isEmpty() ? 12 : row.get(row.size() - 1), s)) {
                    row.add(s);
                    sum += countRows(row);
                    row.remove(row.size() - 1);
                }
            }
            return sum;
        }

        private long countSets(int set, int last) {
            int at = Integer.bitCount(set);
            if (at == leaf.n()) {
                return 1;
            }
            int key = set * 13 + (second >= 0 ? last : 12);
            Long found = known.get(key);
            if (found == null) {
                long sum = 0;
                for (int s = 0; s < leaf.n(); s++) {
                    if (may(set, at, last, s)) {
                        sum += countSets(set | 1 << s, s);
                    }
                }
                found = sum;
                known.put(key, found);
            }
            return found;
        }
    }

    private static final class Plain {
        Leaf leaf = new Leaf();
        List<Integer> tape = new ArrayList<>();
        int fault = 0;
        int faultPlace = -1;
        List<Integer> ring = new ArrayList<>();
        Deque<Leaf> acts = new ArrayDeque<>();
        Object[] rows = new Object[4];

        // the text

        int feed(int[] five) {
            if (tape.size() + 20 > 900) {
                return -3;
            }
            for (int four : five) {
                tape.add(four >>> 24);
                tape.add(four >>> 16 & 255);
                tape.add(four >>> 8 & 255);
                tape.add(four & 255);
            }
            return tape.size();
        }

        int tell(int n) {
            if (n < 0 || n > tape.size()) {
                return -3;
            }
            StringBuilder text = new StringBuilder();
            for (int i = 0; i < n; i++) {
                text.append((char) (int) tape.get(i));
            }
            tape.clear();
            fault = 0;
            faultPlace = -1;
            try {
                Teller teller = new Teller(text.toString(), this);
                int lines = teller.readAll();
                leaf = teller.leaf;
                acts.clear();
                return lines;
            } catch (Fault found) {
                fault = found.code;
                faultPlace = found.place;
                return -30 - fault;
            }
        }

        // by hand

        private void act() {
            acts.addLast(leaf);
            leaf = leaf.copy();
            if (acts.size() > 12) {
                acts.removeFirst();
            }
        }

        int over(int a, int b) {
            int refusal = leaf.refusal(a, b);
            if (refusal == -105) {
                ring = leaf.ringOf(a, b);
                return -5;
            }
            if (refusal != 0) {
                return refusal;
            }
            act();
            leaf.told[a][b] = true;
            return leaf.twos();
        }

        int takes(int a, int b) {
            if (!leaf.has(a) || !leaf.has(b)) {
                return -2;
            }
            if (!leaf.told[a][b]) {
                return -5;
            }
            act();
            leaf.told[a][b] = false;
            return leaf.twos();
        }

        int hand(int stroke, int hand) {
            if (!leaf.has(stroke)) {
                return -2;
            }
            if (hand < -1 || hand > 1) {
                return -3;
            }
            Leaf then = leaf.copy();
            then.hands[stroke] = hand;
            if (then.ways().isEmpty()) {
                return -9;
            }
            act();
            int was = leaf.hands[stroke];
            leaf.hands[stroke] = hand;
            return was + 1;
        }

        int weigh(int letter, int weight) {
            if (letter < 0 || letter >= leaf.letters.size()) {
                return -2;
            }
            if (weight < 1 || weight > 99) {
                return -3;
            }
            act();
            int was = leaf.letters.get(letter)[2];
            leaf.letters.get(letter)[2] = weight;
            return was;
        }

        int undo() {
            if (acts.isEmpty()) {
                return -5;
            }
            leaf = acts.removeLast();
            return acts.size();
        }

        // strokes

        int stroke(int stroke, int what) {
            if (!leaf.has(stroke) || what < 0 || what > 9) {
                return -2;
            }
            if (what < 4) {
                return leaf.strokes.get(stroke)[what];
            }
            if (what == 4) {
                return leaf.hands[stroke] + 1;
            }
            if (what == 5) {
                return leaf.musts()[stroke];
            }
            if (what == 6) {
                return leaf.layer(stroke);
            }
            int bits = 0;
            for (int other = 0; other < leaf.n(); other++) {
                boolean in = what == 7 ? other != stroke && leaf.crossing(stroke, other) >= 0
                        : what == 8 ? leaf.over(stroke, other) : leaf.over(other, stroke);
                bits |= in ? 1 << other : 0;
            }
            return bits;
        }

        boolean two(int a, int b) {
            return leaf.has(a) && leaf.has(b) && a != b;
        }

        int crossing(int a, int b) {
            return two(a, b) ? leaf.crossing(a, b) : -2;
        }

        int ring(int i) {
            return i < 0 ? -3 : i < ring.size() ? ring.get(i) : -1;
        }

        int order(int i) {
            return i < 0 ? -3 : i < leaf.n() ? leaf.order().get(i) : -1;
        }

        long orders() {
            return new Rows(leaf).count();
        }

        /** Rows were the one told OVER the other: it comes behind that. */
        private static long ordersWith(Leaf leaf, int a, int b) {
            Leaf then = leaf.copy();
            then.told[a][b] = true;
            return then.hasRing() ? 0 : new Rows(then).count();
        }

        long ahead(int a, int b) {
            return two(a, b) ? ordersWith(leaf, b, a) : -2;
        }

        int layers() {
            int most = 0;
            for (int s = 0; s < leaf.n(); s++) {
                most = Math.max(most, leaf.layer(s) + 1);
            }
            return most;
        }

        // what shows

        boolean cell(int x, int y) {
            return x >= 0 && y >= 0 && x < leaf.wide && y < leaf.high;
        }

        int top(int x, int y) {
            return cell(x, y) ? leaf.top(x, y, -1, leaf.allOver()) : -2;
        }

        int seen(int x, int y) {
            return cell(x, y) ? leaf.seen(x, y, -1, leaf.allOver(), leaf.musts()) : -2;
        }

        boolean place(int place) {
            return place >= 0 && place < leaf.places.size();
        }

        boolean letter(int letter) {
            return letter >= 0 && letter < leaf.letters.size();
        }

        boolean run(int run) {
            return run >= 0 && run < leaf.runs.size();
        }

        int shows(int place, int what) {
            return place(place) && what >= 0 && what <= 2 ? leaf.shows(place, what, -1) : -2;
        }

        int fits(int place) {
            return place(place) ? leaf.fits(place, -1) : -2;
        }

        int sure(int place) {
            return place(place) ? leaf.sure(place) : -2;
        }

        int odds(int place, int letter) {
            return place(place) && letter(letter) ? Float.floatToRawIntBits(leaf.odds(place, letter)) : -2;
        }

        int guess(int place) {
            if (!place(place)) {
                return -2;
            }
            int best = -1;
            for (int k = leaf.letters.size() - 1; k >= 0; k--) {
                if ((leaf.sure(place) >> k & 1) == 1
                        && (best == -1 || leaf.letters.get(k)[2] >= leaf.letters.get(best)[2])) {
                    best = k;
                }
            }
            return best;
        }

        List<Integer> wordsOf(int run) {
            List<Integer> fitting = new ArrayList<>();
            for (int word = 0; word < leaf.words.size(); word++) {
                if (leaf.wordFits(word, run)) {
                    fitting.add(word);
                }
            }
            return fitting;
        }

        int words(int run, int k) {
            if (!run(run)) {
                return -2;
            }
            if (k < -1) {
                return -3;
            }
            List<Integer> fitting = wordsOf(run);
            return k == -1 ? fitting.size() : k < fitting.size() ? fitting.get(k) : -1;
        }

        int likely(int run) {
            if (!run(run)) {
                return -2;
            }
            int best = -1;
            long most = -1;
            for (int word : wordsOf(run)) {
                long product = 1;
                for (char name : leaf.words.get(word).toCharArray()) {
                    product *= leaf.letters.get(leaf.named(name))[2];
                }
                if (product > most) {
                    most = product;
                    best = word;
                }
            }
            return best;
        }

        int reads(int i) {
            if (i < -1) {
                return -3;
            }
            StringBuilder text = new StringBuilder();
            for (int place = 0; place < leaf.places.size(); place++) {
                int sure = leaf.sure(place);
                int many = Integer.bitCount(sure);
                char one = '?';
                for (int k = 0; k < leaf.letters.size(); k++) {
                    if (sure == 1 << k) {
                        one = (char) leaf.letters.get(k)[0];
                    }
                }
                text.append(many > 1 ? '.' : one);
            }
            return i == -1 ? text.length() : i < text.length() ? text.charAt(i) : -1;
        }

        int letter(int letter, int what) {
            if (!letter(letter) || what < 0 || what > 3) {
                return -2;
            }
            if (what == 3) {
                int places = 0;
                for (int place = 0; place < leaf.places.size(); place++) {
                    places += leaf.fits(place, -1) >> letter & 1;
                }
                return places;
            }
            return leaf.letters.get(letter)[what] - (what == 0 ? 96 : 0);
        }

        // what if

        long asking(int what) {
            if (what < 0 || what > 2) {
                return -2;
            }
            long[] best = {-1, -1, -1};
            for (int a = 0; a < leaf.n(); a++) {
                for (int b = a + 1; b < leaf.n(); b++) {
                    if (leaf.crossing(a, b) >= 0 && !leaf.over(a, b) && !leaf.over(b, a)) {
                        long rows = Math.max(ordersWith(leaf, a, b), ordersWith(leaf, b, a));
                        if (best[2] == -1 || rows < best[2]) {
                            best = new long[] {a, b, rows};
                        }
                    }
                }
            }
            return best[what];
        }

        int loose(int stroke) {
            return leaf.has(stroke) ? leaf.loose(stroke) : -2;
        }

        int scrape() {
            int best = -1;
            int most = 0;
            for (int s = 0; s < leaf.n(); s++) {
                int loose = leaf.loose(s);
                if (loose > most) {
                    most = loose;
                    best = s;
                }
            }
            return best;
        }

        int clearer(int place, int stroke) {
            return place(place) && leaf.has(stroke) ? Integer.bitCount(leaf.fits(place, stroke)) : -2;
        }

        long span(int stroke, int what) {
            if (!leaf.has(stroke) || what < 0 || what > 2) {
                return -2;
            }
            long first = -1;
            long last = -1;
            long sum = 0;
            for (int place = 0; place < leaf.n(); place++) {
                Rows held = new Rows(leaf);
                held.held = stroke;
                held.place = place;
                long rows = held.count();
                sum += rows * place;
                if (rows > 0) {
                    first = first == -1 ? place : first;
                    last = place;
                }
            }
            return what == 0 ? first : what == 1 ? last : 1000 * sum / orders();
        }

        int paired(int a, int b) {
            if (!two(a, b)) {
                return -2;
            }
            Rows behind = new Rows(leaf);
            behind.first = a;
            behind.second = b;
            Rows before = new Rows(leaf);
            before.first = b;
            before.second = a;
            return behind.count() + before.count() > 0 ? 1 : 0;
        }

        int likelihood(int run, int word) {
            if (!run(run) || word < 0 || word >= leaf.words.size()) {
                return -2;
            }
            if (!leaf.wordFits(word, run)) {
                return 0;
            }
            float product = 1;
            for (int i = 0; i < leaf.words.get(word).length(); i++) {
                int letter = leaf.named(leaf.words.get(word).charAt(i));
                product *= leaf.odds(leaf.runs.get(run)[0] + i, letter);
            }
            return Float.floatToRawIntBits(product);
        }

        int spoilt(int stroke, int hand) {
            if (!leaf.has(stroke)) {
                return -2;
            }
            if (hand < 0 || hand > 1) {
                return -3;
            }
            Leaf then = leaf.copy();
            then.hands[stroke] = hand;
            return then.ways().isEmpty() ? 100000 : 1000 + leaf.allFits() - then.allFits();
        }

        // rows

        boolean row(int row) {
            return row >= 0 && row < 4;
        }

        int[] numbers(int row) {
            if (rows[row] instanceof int[] ints) {
                return ints;
            }
            short[] shorts = (short[]) rows[row];
            int[] ints = new int[shorts.length];
            for (int i = 0; i < ints.length; i++) {
                ints[i] = shorts[i];
            }
            return ints;
        }

        int row(int row, int sort, int n) {
            if (!row(row)) {
                return -2;
            }
            if (sort < 0 || sort > 1 || n < 0 || n > 12) {
                return -3;
            }
            rows[row] = sort == 0 ? new short[n] : new int[n];
            return 0;
        }

        int write(int row, int place, int v) {
            if (!row(row)) {
                return -2;
            }
            if (rows[row] == null) {
                return -6;
            }
            if (place < 0 || place >= numbers(row).length) {
                return -7;
            }
            if (rows[row] instanceof int[] ints) {
                ints[place] = v;
            } else {
                ((short[]) rows[row])[place] = (short) v;
            }
            return numbers(row)[place];
        }

        int paste(int from, int place, int to, int at, int n) {
            if (!row(from) || !row(to)) {
                return -2;
            }
            if (rows[from] == null || rows[to] == null) {
                return -6;
            }
            if (rows[from].getClass() != rows[to].getClass()) {
                return -8;
            }
            try {
                System.arraycopy(rows[from], place, rows[to], at, n);
                return 0;
            } catch (IndexOutOfBoundsException e) {
                return -7;
            }
        }

        long mending(int row, int what) {
            if (!row(row) || what < 0 || what > 1) {
                return -2;
            }
            if (rows[row] == null) {
                return -6;
            }
            Leaf then = leaf.copy();
            int out = 0;
            int[] numbers = numbers(row);
            for (int k = 0; k < numbers.length / 2; k++) {
                if (then.refusal(numbers[2 * k], numbers[2 * k + 1]) == 0) {
                    then.told[numbers[2 * k]][numbers[2 * k + 1]] = true;
                } else {
                    out |= 1 << k;
                }
            }
            return what == 0 ? new Rows(then).count() : out;
        }

        int judge(int row) {
            if (!row(row)) {
                return -2;
            }
            if (rows[row] == null) {
                return -6;
            }
            int right = 0;
            for (int v : numbers(row)) {
                if (!place(right) || !letter(v) || (leaf.sure(right) >> v & 1) == 0) {
                    break;
                }
                right++;
            }
            return right;
        }

        int count(int what) {
            int sum = 0;
            switch (what) {
                case 0: return leaf.n();
                case 1: return leaf.letters.size();
                case 2: return leaf.places.size();
                case 3: return leaf.words.size();
                case 4: return leaf.runs.size();
                case 5: return leaf.twos();
                case 6: return acts.size();
                case 7: return tape.size();
                case 8: return leaf.wide;
                case 9: return leaf.high;
                case 10:
                    for (int place = 0; place < leaf.places.size(); place++) {
                        sum += Integer.bitCount(leaf.shows(place, 2, -1));
                    }
                    return sum;
                case 11:
                    for (int a = 0; a < leaf.n(); a++) {
                        for (int b = 0; b < a; b++) {
                            sum += leaf.crossing(a, b) >= 0 ? 1 : 0;
                        }
                    }
                    return sum;
                case 12:
                    for (Object row : rows) {
                        sum += row == null ? 0 : 1;
                    }
                    return sum;
                default: return -1;
            }
        }
    }

    /** Reads a text from a list of its pieces. */
    private static final class Teller {
        final Leaf leaf = new Leaf();
        final Plain plain;
        final int end;
        final List<String> pieces = new ArrayList<>();
        final List<Integer> starts = new ArrayList<>();
        int next = 0;

        Teller(String text, Plain plain) {
            this.plain = plain;
            end = text.length();
            int i = 0;
            while (i < text.length()) {
                int from = i++;
                String kind = kind(text.charAt(from));
                if (kind.equals(" ")) {
                    continue;
                }
                while (!kind.equals("?") && i < text.length() && kind(text.charAt(i)).equals(kind)) {
                    i++;
                }
                pieces.add(text.substring(from, i));
                starts.add(from);
            }
        }

        static String kind(char sign) {
            return sign == ' ' ? " " : "0123456789".indexOf(sign) >= 0 ? "0" : sign >= 'a' && sign <= 'z' ? "a" : "?";
        }

        int at(int piece) {
            return piece < starts.size() ? starts.get(piece) : end;
        }

        Fault misplaced() {
            return new Fault(1, at(next));
        }

        String word() {
            if (next >= pieces.size() || !kind(pieces.get(next).charAt(0)).equals("a")) {
                throw misplaced();
            }
            return pieces.get(next++);
        }

        int number(int least, int most) {
            if (next >= pieces.size() || !kind(pieces.get(next).charAt(0)).equals("0")) {
                throw misplaced();
            }
            String digits = pieces.get(next);
            if (digits.length() > 4 || Integer.parseInt(digits) < least || Integer.parseInt(digits) > most) {
                throw new Fault(2, at(next));
            }
            next++;
            return Integer.parseInt(digits);
        }

        void limit(int there, int most, int place) {
            if (there == most) {
                throw new Fault(4, place);
            }
        }

        int readAll() {
            int lines = 0;
            while (next < pieces.size()) {
                int place = at(next);
                String kind = word();
                switch (kind) {
                    case "page" -> page(place, lines);
                    case "stroke" -> stroke(place);
                    case "hand" -> hand(place);
                    case "over" -> over(place);
                    case "letter" -> letter(place);
                    case "place" -> place(place);
                    case "word" -> wordLine(place);
                    case "run" -> run(place);
                    default -> throw new Fault(1, place);
                }
                if (next >= pieces.size() || !pieces.get(next).equals(";")) {
                    throw misplaced();
                }
                next++;
                lines++;
            }
            return lines;
        }

        void page(int place, int lines) {
            if (lines > 0) {
                throw new Fault(1, place);
            }
            leaf.wide = number(3, 24);
            leaf.high = number(3, 12);
        }

        void stroke(int place) {
            limit(leaf.n(), 12, place);
            int[] s = {number(0, leaf.wide - 1), number(0, leaf.high - 1), number(0, 3), number(1, 9)};
            leaf.strokes.add(s);
            for (int[] cell : leaf.cellsOf(leaf.n() - 1)) {
                if (cell[0] < 0 || cell[0] >= leaf.wide || cell[1] >= leaf.high) {
                    throw new Fault(2, at(next - 1));
                }
            }
        }

        void hand(int place) {
            int stroke = number(0, leaf.n() - 1);
            leaf.hands[stroke] = number(0, 1);
            if (leaf.ways().isEmpty()) {
                throw new Fault(6, place);
            }
        }

        void over(int place) {
            int a = number(0, leaf.n() - 1);
            int b = number(0, leaf.n() - 1);
            int refusal = leaf.refusal(a, b);
            if (refusal == -5) {
                throw new Fault(3, at(next - 1));
            }
            if (refusal == -105) {
                plain.ring = leaf.ringOf(a, b);
                throw new Fault(5, place);
            }
            if (refusal == -9) {
                throw new Fault(6, place);
            }
            leaf.told[a][b] = true;
        }

        void letter(int place) {
            limit(leaf.letters.size(), 10, place);
            String name = word();
            if (name.length() > 1) {
                throw new Fault(1, at(next - 1));
            }
            if (leaf.named(name.charAt(0)) >= 0) {
                throw new Fault(3, at(next - 1));
            }
            leaf.letters.add(new int[] {name.charAt(0), number(1, 511), number(1, 99)});
        }

        void place(int place) {
            limit(leaf.places.size(), 8, place);
            leaf.places.add(new int[] {number(0, leaf.wide - 3), number(0, leaf.high - 3)});
        }

        void wordLine(int place) {
            limit(leaf.words.size(), 12, place);
            String word = word();
            if (word.length() > 6) {
                throw new Fault(1, at(next - 1));
            }
            for (char name : word.toCharArray()) {
                if (leaf.named(name) < 0) {
                    throw new Fault(3, at(next - 1));
                }
            }
            leaf.words.add(word);
        }

        void run(int place) {
            limit(leaf.runs.size(), 4, place);
            int first = number(0, leaf.places.size() - 1);
            int many = number(1, 6);
            if (first + many > leaf.places.size()) {
                throw new Fault(2, at(next - 1));
            }
            for (int[] other : leaf.runs) {
                if (first < other[0] + other[1] && other[0] < first + many) {
                    throw new Fault(3, at(next - 1));
                }
            }
            leaf.runs.add(new int[] {first, many});
        }
    }

    /** Makes texts that mostly hold, with a look at what they would tell. */
    private static final class Maker {
        final Random random;

        Maker(Random random) {
            this.random = random;
        }

        int any(int bound) {
            return random.nextInt(bound);
        }

        String text() {
            Leaf leaf = new Leaf();
            List<String> lines = new ArrayList<>();
            if (any(8) > 0) {
                leaf.wide = 3 + any(any(4) == 0 ? 22 : 5);
                leaf.high = 3 + any(any(4) == 0 ? 10 : 4);
                lines.add("page " + leaf.wide + " " + leaf.high);
            }
            addStrokes(leaf, lines);
            addOver(leaf, lines);
            addScript(leaf, lines);
            if (any(3) == 0) {
                spoilLines(lines);
            }
            StringBuilder text = new StringBuilder();
            for (String line : lines) {
                String blanks = " ".repeat(any(12) == 0 ? any(4) : 0);
                text.append(line).append(blanks).append(';').append(blanks);
            }
            if (any(4) == 0) {
                spoilBytes(text);
            }
            return text.toString();
        }

        private void addStrokes(Leaf leaf, List<String> lines) {
            int n = any(10) == 0 ? any(13) : 3 + any(6);
            for (int tries = 0; tries < 300 && leaf.n() < n; tries++) {
                int[] s = {any(leaf.wide), any(leaf.high), any(4), tries < 250 ? 3 + any(7) : 1 + any(9)};
                leaf.strokes.add(s);
                int[] last = leaf.cellsOf(leaf.n() - 1).get(s[3] - 1);
                if (last[0] < 0 || last[0] >= leaf.wide || last[1] >= leaf.high) {
                    leaf.strokes.remove(leaf.n() - 1);
                } else {
                    lines.add("stroke " + s[0] + " " + s[1] + " " + s[2] + " " + s[3]);
                }
            }
        }

        private void addOver(Leaf leaf, List<String> lines) {
            int twos = any(40);
            for (int i = 0; i < twos && leaf.n() > 1; i++) {
                int a = any(leaf.n());
                int b = any(leaf.n());
                if (leaf.refusal(a, b) == 0 || any(200) == 0) {
                    leaf.told[a][b] = true;
                    lines.add("over " + a + " " + b);
                    if (leaf.hasRing()) {
                        leaf.told[a][b] = false;
                    }
                }
                if (any(4) > 0) {
                    continue;
                }
                int stroke = any(leaf.n());
                int was = leaf.hands[stroke];
                leaf.hands[stroke] = any(3) == 0 ? 1 : 0;
                if (leaf.ways().isEmpty() && any(40) > 0) {
                    leaf.hands[stroke] = was;
                } else {
                    lines.add("hand " + stroke + " " + leaf.hands[stroke]);
                }
            }
        }

        private void addScript(Leaf leaf, List<String> lines) {
            int places = any(9);
            for (int i = 0; i < places; i++) {
                leaf.places.add(new int[] {any(leaf.wide - 2), any(leaf.high - 2)});
            }
            int letters = any(11);
            String names = "";
            for (int i = 0; i < letters; i++) {
                int form = 1 + any(511);
                if (places > 0 && any(5) > 0) {
                    int place = any(places);
                    form = leaf.shows(place, 1, -1) | leaf.shows(place, 2, -1) & any(512);
                }
                char name = (char) ('a' + any(26));
                if (names.indexOf(name) < 0 || any(40) == 0) {
                    names += name;
                    lines.add("letter " + name + " " + Math.max(1, form) + " " + (1 + any(any(2) == 0 ? 99 : 4)));
                }
            }
            for (int[] place : leaf.places) {
                lines.add("place " + place[0] + " " + place[1]);
            }
            int[] sizes = new int[4];
            int first = 0;
            int runs = any(5);
            for (int i = 0; i < runs && first < places; i++) {
                first += any(3) == 0 ? 1 : 0;
                sizes[i] = 1 + any(Math.min(6, 1 + any(3)));
                if (first + sizes[i] <= places) {
                    lines.add("run " + first + " " + sizes[i]);
                }
                first += sizes[i];
            }
            int words = any(13);
            for (int i = 0; i < words && !names.isEmpty(); i++) {
                int size = any(3) == 0 ? 1 + any(6) : Math.max(1, sizes[any(4)]);
                StringBuilder word = new StringBuilder();
                for (int k = 0; k < size; k++) {
                    word.append(names.charAt(any(names.length())));
                }
                lines.add("word " + word);
            }
        }

        private void spoilLines(List<String> lines) {
            if (lines.isEmpty()) {
                return;
            }
            int i = any(lines.size());
            switch (any(5)) {
                case 0 -> lines.add(lines.get(i));
                case 1 -> lines.remove(i);
                case 2 -> lines.add(any(lines.size() + 1), lines.get(i));
                case 3 -> lines.add(any(lines.size() + 1),
                        new String[] {"word a", "letter q 1 1", "run 0 1", "place 0 0", "stroke 0 0 0 1", "hand 0 1",
                            "over 0 1", "over 1 0", "page 5 5", "letter qq 1 1", "word abcdefg"}[any(11)]);
                default -> {
                    int k = any(lines.size());
                    String one = lines.get(i);
                    lines.set(i, lines.get(k));
                    lines.set(k, one);
                }
            }
        }

        private void spoilBytes(StringBuilder text) {
            int many = 1 + any(2);
            String signs = " 0123456789abcdefghnoprstvwz;;;,A\u0000\u00ff\n";
            for (int i = 0; i < many && text.length() > 0; i++) {
                int at = any(text.length());
                switch (any(4)) {
                    case 0 -> text.setCharAt(at, signs.charAt(any(signs.length())));
                    case 1 -> text.deleteCharAt(at);
                    case 2 -> text.insert(at, signs.charAt(any(signs.length())));
                    default -> text.setLength(at);
                }
            }
        }
    }

    private static final class Run {
        final Random random;
        final long seed;
        final Maker maker;
        final TwoHands hands = new TwoHands();
        final Plain plain = new Plain();
        final List<String> calls = new ArrayList<>();
        boolean wrong = false;

        Run(long seed) {
            this.seed = seed;
            random = new Random(seed);
            maker = new Maker(random);
        }

        int any(int bound) {
            return random.nextInt(bound);
        }

        void due(String call, long got, long want) {
            calls.add(call + " = " + want);
            if (got != want && !wrong) {
                wrong = true;
                System.out.println("run " + seed + ", call " + calls.size() + ": " + call + " answered " + got
                        + ", due is " + want);
                for (String one : calls) {
                    System.out.println("    " + one);
                }
            }
        }

        /** A number from 0 to the bound, now and then one that is far off. */
        int pick(int bound) {
            int dice = any(40);
            if (dice == 0) {
                return new int[] {-1, -2, bound, Integer.MAX_VALUE, Integer.MIN_VALUE, 32, 65536}[any(7)];
            }
            return any(Math.max(1, bound));
        }

        void tellText() {
            String text = maker.text();
            for (int i = 0; i < text.length(); i += 20) {
                int[] five = new int[5];
                for (int k = 0; k < 20; k++) {
                    int sign = i + k < text.length() ? text.charAt(i + k) : any(256);
                    five[k / 4] = five[k / 4] << 8 | sign;
                }
                due("feed", hands.feed(five[0], five[1], five[2], five[3], five[4]), plain.feed(five));
            }
            int n = any(15) == 0 ? pick(plain.tape.size() + 2) : text.length();
            String call = "tell(" + n + ") of " + text;
            due(call, hands.tell(n), plain.tell(n));
            due("fault(0)", hands.fault(0), plain.fault);
            due("fault(1)", hands.fault(1), plain.faultPlace);
        }

        void act() {
            int n = plain.leaf.n();
            int a = pick(n);
            int b = pick(n);
            switch (any(8)) {
                case 0, 1, 2 -> {
                    int want = plain.over(a, b);
                    due("over(" + a + ", " + b + ")", hands.over(a, b), want);
                    for (int i = 0; i < 4 && want == -5 && any(4) == 0; i++) {
                        due("ring(" + i + ")", hands.ring(i), plain.ring(i));
                    }
                }
                case 3 -> {
                    for (int i = 0; i < 20 && any(10) > 0 && plain.leaf.has(a) && plain.leaf.has(b)
                            && !plain.leaf.told[a][b]; i++) {
                        a = any(n);
                        b = any(n);
                    }
                    due("takes(" + a + ", " + b + ")", hands.takes(a, b), plain.takes(a, b));
                }
                case 4, 5 -> {
                    int hand = any(3) == 0 ? pick(4) - 1 : any(2);
                    due("hand(" + a + ", " + hand + ")", hands.hand(a, hand), plain.hand(a, hand));
                }
                case 6 -> {
                    int letter = pick(plain.leaf.letters.size());
                    int weight = pick(101);
                    due("weigh(" + letter + ", " + weight + ")", hands.weigh(letter, weight), plain.weigh(letter, weight));
                }
                default -> due("undo()", hands.undo(), plain.undo());
            }
        }

        void askStrokes() {
            int n = plain.leaf.n();
            int a = pick(n);
            int b = pick(n);
            String two = "(" + a + ", " + b + ")";
            int what = pick(11);
            switch (any(9)) {
                case 0, 1 -> due("stroke(" + a + ", " + what + ")", hands.stroke(a, what), plain.stroke(a, what));
                case 2 -> due("crossing" + two, hands.crossing(a, b), plain.crossing(a, b));
                case 3 -> due("ring(" + what + ")", hands.ring(what), plain.ring(what));
                case 4 -> due("order(" + a + ")", hands.order(a), plain.order(a));
                case 5 -> due("orders()", hands.orders(), plain.orders());
                case 6 -> due("ahead" + two, hands.ahead(a, b), plain.ahead(a, b));
                case 7 -> due("ways()", hands.ways(), plain.leaf.ways().size());
                default -> due("layers()", hands.layers(), plain.layers());
            }
        }

        void askSight() {
            int x = pick(plain.leaf.wide);
            int y = pick(plain.leaf.high);
            int place = pick(plain.leaf.places.size());
            int letter = pick(plain.leaf.letters.size());
            int run = pick(plain.leaf.runs.size());
            int k = pick(6) - 1;
            switch (any(12)) {
                case 0 -> due("top(" + x + ", " + y + ")", hands.top(x, y), plain.top(x, y));
                case 1 -> due("seen(" + x + ", " + y + ")", hands.seen(x, y), plain.seen(x, y));
                case 2 -> due("shows(" + place + ", " + k + ")", hands.shows(place, k), plain.shows(place, k));
                case 3 -> due("fits(" + place + ")", hands.fits(place), plain.fits(place));
                case 4 -> due("sure(" + place + ")", hands.sure(place), plain.sure(place));
                case 5 -> due("odds(" + place + ", " + letter + ")", hands.odds(place, letter), plain.odds(place, letter));
                case 6 -> due("guess(" + place + ")", hands.guess(place), plain.guess(place));
                case 7 -> due("words(" + run + ", " + k + ")", hands.words(run, k), plain.words(run, k));
                case 8 -> due("likely(" + run + ")", hands.likely(run), plain.likely(run));
                case 9 -> due("reads(" + place + ")", hands.reads(place), plain.reads(place));
                case 10 -> due("reads(" + k + ")", hands.reads(k), plain.reads(k));
                default -> due("letter(" + letter + ", " + k + ")", hands.letter(letter, k), plain.letter(letter, k));
            }
        }

        void askWhatIf() {
            int n = plain.leaf.n();
            int a = pick(n);
            int b = pick(n);
            int place = pick(plain.leaf.places.size());
            int run = pick(plain.leaf.runs.size());
            int word = pick(plain.leaf.words.size());
            int what = pick(3);
            switch (any(9)) {
                case 0 -> due("asking(" + what + ")", hands.asking(what), plain.asking(what));
                case 1 -> due("loose(" + a + ")", hands.loose(a), plain.loose(a));
                case 2 -> due("scrape()", hands.scrape(), plain.scrape());
                case 3 -> due("clearer(" + place + ", " + a + ")", hands.clearer(place, a), plain.clearer(place, a));
                case 4 -> due("span(" + a + ", " + what + ")", hands.span(a, what), plain.span(a, what));
                case 5 -> due("paired(" + a + ", " + b + ")", hands.paired(a, b), plain.paired(a, b));
                case 6, 7 -> due("likelihood(" + run + ", " + word + ")", hands.likelihood(run, word),
                        plain.likelihood(run, word));
                default -> due("spoilt(" + a + ", " + what + ")", hands.spoilt(a, what), plain.spoilt(a, what));
            }
        }

        void askRows() {
            int row = pick(4);
            int to = pick(4);
            int place = pick(6);
            int at = pick(6);
            int n = pick(14);
            int sort = any(20) == 0 ? pick(4) - 1 : any(5) == 0 ? 0 : 1;
            int v = any(9) == 0 ? random.nextInt() : any(8);
            switch (any(9)) {
                case 0 -> due("row(" + row + ", " + sort + ", " + n + ")", hands.row(row, sort, n), plain.row(row, sort, n));
                case 1, 2, 3 -> due("write(" + row + ", " + place + ", " + v + ")", hands.write(row, place, v),
                        plain.write(row, place, v));
                case 4 -> due("paste(" + row + ", " + place + ", " + to + ", " + at + ", " + n % 7 + ")",
                        hands.paste(row, place, to, at, n % 7), plain.paste(row, place, to, at, n % 7));
                case 5 -> due("mending(" + row + ", 0)", hands.mending(row, 0), plain.mending(row, 0));
                case 6 -> due("mending(" + row + ", 1)", hands.mending(row, 1), plain.mending(row, 1));
                case 7 -> due("judge(" + row + ")", hands.judge(row), plain.judge(row));
                default -> due("count(" + n + ")", hands.count(n), plain.count(n));
            }
        }

        boolean go() {
            for (int tries = 0; tries < 3 && plain.leaf.n() == 0; tries++) {
                tellText();
            }
            for (int row = 0; row < 4; row++) {
                due("row(" + row + ", 1, 6)", hands.row(row, 1, 6), plain.row(row, 1, 6));
            }
            while (calls.size() < CALLS - 60 && !wrong) {
                int dice = any(100);
                if (dice == 0) {
                    tellText();
                } else if (dice < 20) {
                    act();
                } else if (dice < 40) {
                    askStrokes();
                } else if (dice < 62) {
                    askSight();
                } else if (dice < 82) {
                    askWhatIf();
                } else {
                    askRows();
                }
            }
            return !wrong;
        }
    }

    public static void main(String[] args) {
        int runs = args.length > 0 ? Integer.parseInt(args[0]) : RUNS;
        int wrong = 0;
        long calls = 0;
        for (long seed = 1; seed <= runs && wrong < 3; seed++) {
            Run run = new Run(seed);
            wrong += run.go() ? 0 : 1;
            calls += run.calls.size();
        }
        System.out.println("random runs: " + calls + " answers, " + wrong + " runs not as due");
        if (wrong != 0) {
            System.exit(1);
        }
    }
}
