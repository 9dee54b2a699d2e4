import java.util.ArrayList;
import java.util.HashMap;
import java.util.List;
import java.util.Map;

/** Counts rows of ORDERS, with one stroke held to a place, or one right behind another. */
final class Rows {
    final Leaf leaf;
    int held = -1;
    int place = -1;
    int first = -1;
    int second = -1;
    private final Map<Integer, Long> known = new HashMap<>();

    Rows(Leaf leaf) {
        this.leaf = leaf;
    }

    long count() {
        return leaf.n() <= 6 ? countRows(new ArrayList<>()) : countSets(0, 12);
    }

    private boolean may(int set, int at, int last, int next) {
        if ((set >> next & 1) == 1 || next == held && at != place || at == place && held >= 0 && next != held
                || next == second && last != first) {
            return false;
        }
        for (int b = 0; b < leaf.n(); b++) {
            if (leaf.told[next][b] && (set >> b & 1) == 0) {
                return false;
            }
        }
        return true;
    }

    private long countRows(List<Integer> row) {
        if (row.size() == leaf.n()) {
            return 1;
        }
        int set = 0;
        for (int s : row) {
            set |= 1 << s;
        }
        long sum = 0;
        for (int s = 0; s < leaf.n(); s++) {
            if (may(set, row.size(), row.isEmpty() ? 12 : row.get(row.size() - 1), s)) {
                row.add(s);
                sum += countRows(row);
                row.remove(row.size() - 1);
            }
        }
        return sum;
    }

    private long countSets(int set, int last) {
        int at = Integer.bitCount(set);
        if (at == leaf.n()) {
            return 1;
        }
        int key = set * 13 + (second >= 0 ? last : 12);
        Long found = known.get(key);
        if (found == null) {
            long sum = 0;
            for (int s = 0; s < leaf.n(); s++) {
                if (may(set, at, last, s)) {
                    sum += countSets(set | 1 << s, s);
                }
            }
            found = sum;
            known.put(key, found);
        }
        return found;
    }
}
