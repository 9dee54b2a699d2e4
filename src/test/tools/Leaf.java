import java.util.ArrayList;
import java.util.Arrays;
import java.util.List;

/** All that a text tells, copied whole for each ACT. */
final class Leaf {
    int wide = 3;
    int high = 3;
    List<int[]> strokes = new ArrayList<>();
    int[] hands = new int[12];
    boolean[][] told = new boolean[12][12];
    List<int[]> letters = new ArrayList<>();
    List<int[]> places = new ArrayList<>();
    List<String> words = new ArrayList<>();
    List<int[]> runs = new ArrayList<>();

    Leaf() {
        Arrays.fill(hands, -1);
    }

    Leaf copy() {
        Leaf other = new Leaf();
        other.wide = wide;
        other.high = high;
        other.strokes.addAll(strokes);
        other.hands = hands.clone();
        for (int i = 0; i < 12; i++) {
            other.told[i] = told[i].clone();
        }
        for (int[] letter : letters) {
            other.letters.add(letter.clone());
        }
        other.places.addAll(places);
        other.words.addAll(words);
        other.runs.addAll(runs);
        return other;
    }

    int n() {
        return strokes.size();
    }

    boolean has(int stroke) {
        return stroke >= 0 && stroke < n();
    }

    List<int[]> cellsOf(int stroke) {
        int[] s = strokes.get(stroke);
        List<int[]> cells = new ArrayList<>();
        int x = s[0];
        int y = s[1];
        for (int i = 0; i < s[3]; i++) {
            cells.add(new int[] {x, y});
            x += s[2] == 0 || s[2] == 2 ? 1 : s[2] == 3 ? -1 : 0;
            y += s[2] == 0 ? 0 : 1;
        }
        return cells;
    }

    int crossing(int a, int b) {
        for (int[] one : cellsOf(a)) {
            for (int[] other : cellsOf(b)) {
                if (one[0] == other[0] && one[1] == other[1]) {
                    return 100 * one[1] + one[0];
                }
            }
        }
        return -1;
    }

    int twos() {
        int twos = 0;
        for (boolean[] row : told) {
            for (boolean one : row) {
                twos += one ? 1 : 0;
            }
        }
        return twos;
    }

    boolean over(int a, int b) {
        for (int c = 0; c < n(); c++) {
            if (told[a][c] && (c == b || over(c, b))) {
                return true;
            }
        }
        return false;
    }

    boolean[][] allOver() {
        boolean[][] all = new boolean[n()][n()];
        for (int a = 0; a < n(); a++) {
            for (int b = 0; b < n(); b++) {
                all[a][b] = told[a][b];
            }
        }
        for (int c = 0; c < n(); c++) {
            for (int a = 0; a < n(); a++) {
                for (int b = 0; b < n(); b++) {
                    all[a][b] |= all[a][c] && all[c][b];
                }
            }
        }
        return all;
    }

    boolean hasRing() {
        boolean[][] all = allOver();
        for (int a = 0; a < n(); a++) {
            if (all[a][a]) {
                return true;
            }
        }
        return false;
    }

    /** The rings through a and b, by trying all ways; the shortest, then the first. */
    List<Integer> ringOf(int a, int b) {
        List<Integer> way = new ArrayList<>(List.of(a, b));
        List<List<Integer>> best = new ArrayList<>();
        tryRings(way, a, best);
        return best.get(0);
    }

    private void tryRings(List<Integer> way, int a, List<List<Integer>> best) {
        int last = way.get(way.size() - 1);
        if (told[last][a] && (best.isEmpty() || way.size() < best.get(0).size())) {
            best.clear();
            best.add(new ArrayList<>(way));
        }
        if (!best.isEmpty() && way.size() >= best.get(0).size()) {
            return;
        }
        for (int next = 0; next < n(); next++) {
            if (told[last][next] && !way.contains(next)) {
                way.add(next);
                tryRings(way, a, best);
                way.remove(way.size() - 1);
            }
        }
    }

    /** All WAYS of HANDS, each as bits of the upper strokes. */
    List<Integer> ways() {
        List<Integer> ways = new ArrayList<>();
        for (int upper = 0; upper < 1 << n(); upper++) {
            boolean good = true;
            for (int a = 0; a < n() && good; a++) {
                int hand = upper >> a & 1;
                good = hands[a] == -1 || hands[a] == hand;
                for (int b = 0; b < n() && good; b++) {
                    good = !told[a][b] || hand == 1 || (upper >> b & 1) == 0;
                }
            }
            if (good) {
                ways.add(upper);
            }
        }
        return ways;
    }

    int[] musts() {
        int[] must = new int[n()];
        List<Integer> ways = ways();
        for (int s = 0; s < n(); s++) {
            int uppers = 0;
            for (int way : ways) {
                uppers += way >> s & 1;
            }
            must[s] = uppers == 0 ? 0 : uppers == ways.size() ? 1 : 2;
        }
        return must;
    }

    int layer(int stroke) {
        int most = 0;
        for (int b = 0; b < n(); b++) {
            if (told[stroke][b]) {
                most = Math.max(most, 1 + layer(b));
            }
        }
        return most;
    }

    List<Integer> order() {
        boolean[][] all = allOver();
        List<Integer> order = new ArrayList<>();
        while (order.size() < n()) {
            for (int s = 0; s < n(); s++) {
                boolean ready = !order.contains(s);
                for (int b = 0; b < n(); b++) {
                    ready &= !all[s][b] || order.contains(b);
                }
                if (ready) {
                    order.add(s);
                    break;
                }
            }
        }
        return order;
    }

    List<Integer> strokesAt(int x, int y, int scraped) {
        List<Integer> there = new ArrayList<>();
        for (int s = 0; s < n(); s++) {
            for (int[] cell : cellsOf(s)) {
                if (s != scraped && cell[0] == x && cell[1] == y) {
                    there.add(s);
                }
            }
        }
        return there;
    }

    int top(int x, int y, int scraped, boolean[][] all) {
        List<Integer> there = strokesAt(x, y, scraped);
        for (int s : there) {
            boolean top = true;
            for (int other : there) {
                top &= other == s || all[s][other];
            }
            if (top) {
                return s;
            }
        }
        return -1;
    }

    int seen(int x, int y, int scraped, boolean[][] all, int[] must) {
        if (strokesAt(x, y, scraped).isEmpty()) {
            return 0;
        }
        int top = top(x, y, scraped, all);
        return top >= 0 && must[top] == 0 ? 1 : 2;
    }

    int[] looks(int place, int scraped) {
        boolean[][] all = allOver();
        int[] must = musts();
        int[] looks = new int[9];
        for (int r = 0; r < 3; r++) {
            for (int c = 0; c < 3; c++) {
                looks[3 * r + c] = seen(places.get(place)[0] + c, places.get(place)[1] + r, scraped, all, must);
            }
        }
        return looks;
    }

    int shows(int place, int what, int scraped) {
        int[] looks = looks(place, scraped);
        int bits = 0;
        for (int i = 0; i < 9; i++) {
            bits |= looks[i] == what ? 1 << i : 0;
        }
        return bits;
    }

    int fits(int place, int scraped) {
        int[] looks = looks(place, scraped);
        int bits = 0;
        for (int k = 0; k < letters.size(); k++) {
            boolean good = true;
            for (int i = 0; i < 9; i++) {
                boolean in = (letters.get(k)[1] >> i & 1) == 1;
                good &= looks[i] == 2 || looks[i] == 1 && in || looks[i] == 0 && !in;
            }
            bits |= good ? 1 << k : 0;
        }
        return bits;
    }

    int named(char name) {
        for (int k = 0; k < letters.size(); k++) {
            if (letters.get(k)[0] == name) {
                return k;
            }
        }
        return -1;
    }

    boolean wordFits(int word, int run) {
        String text = words.get(word);
        int[] places = runs.get(run);
        if (text.length() != places[1]) {
            return false;
        }
        for (int i = 0; i < text.length(); i++) {
            if ((fits(places[0] + i, -1) >> named(text.charAt(i)) & 1) == 0) {
                return false;
            }
        }
        return true;
    }

    int sure(int place) {
        for (int run = 0; run < runs.size(); run++) {
            int i = place - runs.get(run)[0];
            if (i >= 0 && i < runs.get(run)[1]) {
                int bits = 0;
                for (int word = 0; word < words.size(); word++) {
                    if (wordFits(word, run)) {
                        bits |= 1 << named(words.get(word).charAt(i));
                    }
                }
                return bits;
            }
        }
        return fits(place, -1);
    }

    float odds(int place, int letter) {
        int sure = sure(place);
        if ((sure >> letter & 1) == 0) {
            return 0f;
        }
        int sum = 0;
        for (int k = 0; k < letters.size(); k++) {
            sum += (sure >> k & 1) * letters.get(k)[2];
        }
        return (float) letters.get(letter)[2] / (float) sum;
    }

    int allFits() {
        int all = 0;
        for (int place = 0; place < places.size(); place++) {
            all += Integer.bitCount(fits(place, -1));
        }
        return all;
    }

    int loose(int stroke) {
        int loose = 0;
        for (int place = 0; place < places.size(); place++) {
            loose += Integer.bitCount(shows(place, 2, -1) & ~shows(place, 2, stroke));
        }
        return loose;
    }

    int refusal(int a, int b) {
        if (!has(a) || !has(b)) {
            return -2;
        }
        if (a == b || crossing(a, b) == -1 || told[a][b]) {
            return -5;
        }
        told[a][b] = true;
        boolean ring = hasRing();
        boolean none = !ring && ways().isEmpty();
        told[a][b] = false;
        return ring ? -105 : none ? -9 : 0;
    }
}
