import java.util.ArrayList;
import java.util.List;

/** Reads a text from a list of its pieces. */
final class Teller {
    final Leaf leaf = new Leaf();
    final Plain plain;
    final int end;
    final List<String> pieces = new ArrayList<>();
    final List<Integer> starts = new ArrayList<>();
    int next = 0;

    Teller(String text, Plain plain) {
        this.plain = plain;
        end = text.length();
        int i = 0;
        while (i < text.length()) {
            int from = i++;
            String kind = kind(text.charAt(from));
            if (kind.equals(" ")) {
                continue;
            }
            while (!kind.equals("?") && i < text.length() && kind(text.charAt(i)).equals(kind)) {
                i++;
            }
            pieces.add(text.substring(from, i));
            starts.add(from);
        }
    }

    static String kind(char sign) {
        return sign == ' ' ? " " : "0123456789".indexOf(sign) >= 0 ? "0" : sign >= 'a' && sign <= 'z' ? "a" : "?";
    }

    int at(int piece) {
        return piece < starts.size() ? starts.get(piece) : end;
    }

    Fault misplaced() {
        return new Fault(1, at(next));
    }

    String word() {
        if (next >= pieces.size() || !kind(pieces.get(next).charAt(0)).equals("a")) {
            throw misplaced();
        }
        return pieces.get(next++);
    }

    int number(int least, int most) {
        if (next >= pieces.size() || !kind(pieces.get(next).charAt(0)).equals("0")) {
            throw misplaced();
        }
        String digits = pieces.get(next);
        if (digits.length() > 4 || Integer.parseInt(digits) < least || Integer.parseInt(digits) > most) {
            throw new Fault(2, at(next));
        }
        next++;
        return Integer.parseInt(digits);
    }

    void limit(int there, int most, int place) {
        if (there == most) {
            throw new Fault(4, place);
        }
    }

    int readAll() {
        int lines = 0;
        while (next < pieces.size()) {
            int place = at(next);
            String kind = word();
            switch (kind) {
                case "page" -> page(place, lines);
                case "stroke" -> stroke(place);
                case "hand" -> hand(place);
                case "over" -> over(place);
                case "letter" -> letter(place);
                case "place" -> place(place);
                case "word" -> wordLine(place);
                case "run" -> run(place);
                default -> throw new Fault(1, place);
            }
            if (next >= pieces.size() || !pieces.get(next).equals(";")) {
                throw misplaced();
            }
            next++;
            lines++;
        }
        return lines;
    }

    void page(int place, int lines) {
        if (lines > 0) {
            throw new Fault(1, place);
        }
        leaf.wide = number(3, 24);
        leaf.high = number(3, 12);
    }

    void stroke(int place) {
        limit(leaf.n(), 12, place);
        int[] s = {number(0, leaf.wide - 1), number(0, leaf.high - 1), number(0, 3), number(1, 9)};
        leaf.strokes.add(s);
        for (int[] cell : leaf.cellsOf(leaf.n() - 1)) {
            if (cell[0] < 0 || cell[0] >= leaf.wide || cell[1] >= leaf.high) {
                throw new Fault(2, at(next - 1));
            }
        }
    }

    void hand(int place) {
        int stroke = number(0, leaf.n() - 1);
        leaf.hands[stroke] = number(0, 1);
        if (leaf.ways().isEmpty()) {
            throw new Fault(6, place);
        }
    }

    void over(int place) {
        int a = number(0, leaf.n() - 1);
        int b = number(0, leaf.n() - 1);
        int refusal = leaf.refusal(a, b);
        if (refusal == -5) {
            throw new Fault(3, at(next - 1));
        }
        if (refusal == -105) {
            plain.ring = leaf.ringOf(a, b);
            throw new Fault(5, place);
        }
        if (refusal == -9) {
            throw new Fault(6, place);
        }
        leaf.told[a][b] = true;
    }

    void letter(int place) {
        limit(leaf.letters.size(), 10, place);
        String name = word();
        if (name.length() > 1) {
            throw new Fault(1, at(next - 1));
        }
        if (leaf.named(name.charAt(0)) >= 0) {
            throw new Fault(3, at(next - 1));
        }
        leaf.letters.add(new int[] {name.charAt(0), number(1, 511), number(1, 99)});
    }

    void place(int place) {
        limit(leaf.places.size(), 8, place);
        leaf.places.add(new int[] {number(0, leaf.wide - 3), number(0, leaf.high - 3)});
    }

    void wordLine(int place) {
        limit(leaf.words.size(), 12, place);
        String word = word();
        if (word.length() > 6) {
            throw new Fault(1, at(next - 1));
        }
        for (char name : word.toCharArray()) {
            if (leaf.named(name) < 0) {
                throw new Fault(3, at(next - 1));
            }
        }
        leaf.words.add(word);
    }

    void run(int place) {
        limit(leaf.runs.size(), 4, place);
        int first = number(0, leaf.places.size() - 1);
        int many = number(1, 6);
        if (first + many > leaf.places.size()) {
            throw new Fault(2, at(next - 1));
        }
        for (int[] other : leaf.runs) {
            if (first < other[0] + other[1] && other[0] < first + many) {
                throw new Fault(3, at(next - 1));
            }
        }
        leaf.runs.add(new int[] {first, many});
    }
}
