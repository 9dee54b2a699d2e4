import java.util.ArrayList;
import java.util.List;
import java.util.Random;

/** Runs of random calls, each answer held against a plain model that follows the document word by word. */
public final class RandomRuns {
    private static final int RUNS = 1500;
    private static final int CALLS = 512;

    /** Makes texts that mostly hold, with a look at what they would tell. */
    private static final class Maker {
        final Random random;

        Maker(Random random) {
            this.random = random;
        }

        int any(int bound) {
            return random.nextInt(bound);
        }

        String text() {
            Leaf leaf = new Leaf();
            List<String> lines = new ArrayList<>();
            if (any(8) > 0) {
                leaf.wide = 3 + any(any(4) == 0 ? 22 : 5);
                leaf.high = 3 + any(any(4) == 0 ? 10 : 4);
                lines.add("page " + leaf.wide + " " + leaf.high);
            }
            addStrokes(leaf, lines);
            addOver(leaf, lines);
            addScript(leaf, lines);
            if (any(3) == 0) {
                spoilLines(lines);
            }
            StringBuilder text = new StringBuilder();
            for (String line : lines) {
                String blanks = " ".repeat(any(12) == 0 ? any(4) : 0);
                text.append(line).append(blanks).append(';').append(blanks);
            }
            if (any(4) == 0) {
                spoilBytes(text);
            }
            return text.toString();
        }

        private void addStrokes(Leaf leaf, List<String> lines) {
            int n = any(10) == 0 ? any(13) : 3 + any(6);
            for (int tries = 0; tries < 300 && leaf.n() < n; tries++) {
                int[] s = {any(leaf.wide), any(leaf.high), any(4), tries < 250 ? 3 + any(7) : 1 + any(9)};
                leaf.strokes.add(s);
                int[] last = leaf.cellsOf(leaf.n() - 1).get(s[3] - 1);
                if (last[0] < 0 || last[0] >= leaf.wide || last[1] >= leaf.high) {
                    leaf.strokes.remove(leaf.n() - 1);
                } else {
                    lines.add("stroke " + s[0] + " " + s[1] + " " + s[2] + " " + s[3]);
                }
            }
        }

        private void addOver(Leaf leaf, List<String> lines) {
            int twos = any(40);
            for (int i = 0; i < twos && leaf.n() > 1; i++) {
                int a = any(leaf.n());
                int b = any(leaf.n());
                if (leaf.refusal(a, b) == 0 || any(200) == 0) {
                    leaf.told[a][b] = true;
                    lines.add("over " + a + " " + b);
                    if (leaf.hasRing()) {
                        leaf.told[a][b] = false;
                    }
                }
                if (any(4) > 0) {
                    continue;
                }
                int stroke = any(leaf.n());
                int was = leaf.hands[stroke];
                leaf.hands[stroke] = any(3) == 0 ? 1 : 0;
                if (leaf.ways().isEmpty() && any(40) > 0) {
                    leaf.hands[stroke] = was;
                } else {
                    lines.add("hand " + stroke + " " + leaf.hands[stroke]);
                }
            }
        }

        private void addScript(Leaf leaf, List<String> lines) {
            int places = any(9);
            for (int i = 0; i < places; i++) {
                leaf.places.add(new int[] {any(leaf.wide - 2), any(leaf.high - 2)});
            }
            int letters = any(11);
            String names = "";
            for (int i = 0; i < letters; i++) {
                int form = 1 + any(511);
                if (places > 0 && any(5) > 0) {
                    int place = any(places);
                    form = leaf.shows(place, 1, -1) | leaf.shows(place, 2, -1) & any(512);
                }
                char name = (char) ('a' + any(26));
                if (names.indexOf(name) < 0 || any(40) == 0) {
                    names += name;
                    lines.add("letter " + name + " " + Math.max(1, form) + " " + (1 + any(any(2) == 0 ? 99 : 4)));
                }
            }
            for (int[] place : leaf.places) {
                lines.add("place " + place[0] + " " + place[1]);
            }
            int[] sizes = new int[4];
            int first = 0;
            int runs = any(5);
            for (int i = 0; i < runs && first < places; i++) {
                first += any(3) == 0 ? 1 : 0;
                sizes[i] = 1 + any(Math.min(6, 1 + any(3)));
                if (first + sizes[i] <= places) {
                    lines.add("run " + first + " " + sizes[i]);
                }
                first += sizes[i];
            }
            int words = any(13);
            for (int i = 0; i < words && !names.isEmpty(); i++) {
                int size = any(3) == 0 ? 1 + any(6) : Math.max(1, sizes[any(4)]);
                StringBuilder word = new StringBuilder();
                for (int k = 0; k < size; k++) {
                    word.append(names.charAt(any(names.length())));
                }
                lines.add("word " + word);
            }
        }

        private void spoilLines(List<String> lines) {
            if (lines.isEmpty()) {
                return;
            }
            int i = any(lines.size());
            switch (any(5)) {
                case 0 -> lines.add(lines.get(i));
                case 1 -> lines.remove(i);
                case 2 -> lines.add(any(lines.size() + 1), lines.get(i));
                case 3 -> lines.add(any(lines.size() + 1),
                        new String[] {"word a", "letter q 1 1", "run 0 1", "place 0 0", "stroke 0 0 0 1", "hand 0 1",
                            "over 0 1", "over 1 0", "page 5 5", "letter qq 1 1", "word abcdefg"}[any(11)]);
                default -> {
                    int k = any(lines.size());
                    String one = lines.get(i);
                    lines.set(i, lines.get(k));
                    lines.set(k, one);
                }
            }
        }

        private void spoilBytes(StringBuilder text) {
            int many = 1 + any(2);
            String signs = " 0123456789abcdefghnoprstvwz;;;,A\u0000\u00ff\n";
            for (int i = 0; i < many && text.length() > 0; i++) {
                int at = any(text.length());
                switch (any(4)) {
                    case 0 -> text.setCharAt(at, signs.charAt(any(signs.length())));
                    case 1 -> text.deleteCharAt(at);
                    case 2 -> text.insert(at, signs.charAt(any(signs.length())));
                    default -> text.setLength(at);
                }
            }
        }
    }

    private static final class Run {
        final Random random;
        final long seed;
        final Maker maker;
        final TwoHands hands = new TwoHands();
        final Plain plain = new Plain();
        final List<String> calls = new ArrayList<>();
        boolean wrong = false;

        Run(long seed) {
            this.seed = seed;
            random = new Random(seed);
            maker = new Maker(random);
        }

        int any(int bound) {
            return random.nextInt(bound);
        }

        void due(String call, long got, long want) {
            calls.add(call + " = " + want);
            if (got != want && !wrong) {
                wrong = true;
                System.out.println("run " + seed + ", call " + calls.size() + ": " + call + " answered " + got
                        + ", due is " + want);
                for (String one : calls) {
                    System.out.println("    " + one);
                }
            }
        }

        /** A number from 0 to the bound, now and then one that is far off. */
        int pick(int bound) {
            int dice = any(40);
            if (dice == 0) {
                return new int[] {-1, -2, bound, Integer.MAX_VALUE, Integer.MIN_VALUE, 32, 65536}[any(7)];
            }
            return any(Math.max(1, bound));
        }

        void tellText() {
            String text = maker.text();
            for (int i = 0; i < text.length(); i += 20) {
                int[] five = new int[5];
                for (int k = 0; k < 20; k++) {
                    int sign = i + k < text.length() ? text.charAt(i + k) : any(256);
                    five[k / 4] = five[k / 4] << 8 | sign;
                }
                due("feed", hands.feed(five[0], five[1], five[2], five[3], five[4]),
                        plain.feed(five[0], five[1], five[2], five[3], five[4]));
            }
            int n = any(15) == 0 ? pick(plain.tape.size() + 2) : text.length();
            String call = "tell(" + n + ") of " + text;
            due(call, hands.tell(n), plain.tell(n));
            due("fault(0)", hands.fault(0), plain.fault(0));
            due("fault(1)", hands.fault(1), plain.fault(1));
        }

        void act() {
            int n = plain.leaf.n();
            int a = pick(n);
            int b = pick(n);
            switch (any(8)) {
                case 0, 1, 2 -> {
                    int want = plain.over(a, b);
                    due("over(" + a + ", " + b + ")", hands.over(a, b), want);
                    for (int i = 0; i < 4 && want == -5 && any(4) == 0; i++) {
                        due("ring(" + i + ")", hands.ring(i), plain.ring(i));
                    }
                }
                case 3 -> {
                    for (int i = 0; i < 20 && any(10) > 0 && plain.leaf.has(a) && plain.leaf.has(b)
                            && !plain.leaf.told[a][b]; i++) {
                        a = any(n);
                        b = any(n);
                    }
                    due("takes(" + a + ", " + b + ")", hands.takes(a, b), plain.takes(a, b));
                }
                case 4, 5 -> {
                    int hand = any(3) == 0 ? pick(4) - 1 : any(2);
                    due("hand(" + a + ", " + hand + ")", hands.hand(a, hand), plain.hand(a, hand));
                }
                case 6 -> {
                    int letter = pick(plain.leaf.letters.size());
                    int weight = pick(101);
                    due("weigh(" + letter + ", " + weight + ")", hands.weigh(letter, weight), plain.weigh(letter, weight));
                }
                default -> due("undo()", hands.undo(), plain.undo());
            }
        }

        void askStrokes() {
            int n = plain.leaf.n();
            int a = pick(n);
            int b = pick(n);
            String two = "(" + a + ", " + b + ")";
            int what = pick(11);
            switch (any(9)) {
                case 0, 1 -> due("stroke(" + a + ", " + what + ")", hands.stroke(a, what), plain.stroke(a, what));
                case 2 -> due("crossing" + two, hands.crossing(a, b), plain.crossing(a, b));
                case 3 -> due("ring(" + what + ")", hands.ring(what), plain.ring(what));
                case 4 -> due("order(" + a + ")", hands.order(a), plain.order(a));
                case 5 -> due("orders()", hands.orders(), plain.orders());
                case 6 -> due("ahead" + two, hands.ahead(a, b), plain.ahead(a, b));
                case 7 -> due("ways()", hands.ways(), plain.ways());
                default -> due("layers()", hands.layers(), plain.layers());
            }
        }

        void askSight() {
            int x = pick(plain.leaf.wide);
            int y = pick(plain.leaf.high);
            int place = pick(plain.leaf.places.size());
            int letter = pick(plain.leaf.letters.size());
            int run = pick(plain.leaf.runs.size());
            int k = pick(6) - 1;
            switch (any(12)) {
                case 0 -> due("top(" + x + ", " + y + ")", hands.top(x, y), plain.top(x, y));
                case 1 -> due("seen(" + x + ", " + y + ")", hands.seen(x, y), plain.seen(x, y));
                case 2 -> due("shows(" + place + ", " + k + ")", hands.shows(place, k), plain.shows(place, k));
                case 3 -> due("fits(" + place + ")", hands.fits(place), plain.fits(place));
                case 4 -> due("sure(" + place + ")", hands.sure(place), plain.sure(place));
                case 5 -> due("odds(" + place + ", " + letter + ")", hands.odds(place, letter), plain.odds(place, letter));
                case 6 -> due("guess(" + place + ")", hands.guess(place), plain.guess(place));
                case 7 -> due("words(" + run + ", " + k + ")", hands.words(run, k), plain.words(run, k));
                case 8 -> due("likely(" + run + ")", hands.likely(run), plain.likely(run));
                case 9 -> due("reads(" + place + ")", hands.reads(place), plain.reads(place));
                case 10 -> due("reads(" + k + ")", hands.reads(k), plain.reads(k));
                default -> due("letter(" + letter + ", " + k + ")", hands.letter(letter, k), plain.letter(letter, k));
            }
        }

        void askWhatIf() {
            int n = plain.leaf.n();
            int a = pick(n);
            int b = pick(n);
            int place = pick(plain.leaf.places.size());
            int run = pick(plain.leaf.runs.size());
            int word = pick(plain.leaf.words.size());
            int what = pick(3);
            switch (any(9)) {
                case 0 -> due("asking(" + what + ")", hands.asking(what), plain.asking(what));
                case 1 -> due("loose(" + a + ")", hands.loose(a), plain.loose(a));
                case 2 -> due("scrape()", hands.scrape(), plain.scrape());
                case 3 -> due("clearer(" + place + ", " + a + ")", hands.clearer(place, a), plain.clearer(place, a));
                case 4 -> due("span(" + a + ", " + what + ")", hands.span(a, what), plain.span(a, what));
                case 5 -> due("paired(" + a + ", " + b + ")", hands.paired(a, b), plain.paired(a, b));
                case 6, 7 -> due("likelihood(" + run + ", " + word + ")", hands.likelihood(run, word),
                        plain.likelihood(run, word));
                default -> due("spoilt(" + a + ", " + what + ")", hands.spoilt(a, what), plain.spoilt(a, what));
            }
        }

        void askRows() {
            int row = pick(4);
            int to = pick(4);
            int place = pick(6);
            int at = pick(6);
            int n = pick(14);
            int sort = any(20) == 0 ? pick(4) - 1 : any(5) == 0 ? 0 : 1;
            int v = any(9) == 0 ? random.nextInt() : any(8);
            switch (any(9)) {
                case 0 -> due("row(" + row + ", " + sort + ", " + n + ")", hands.row(row, sort, n), plain.row(row, sort, n));
                case 1, 2, 3 -> due("write(" + row + ", " + place + ", " + v + ")", hands.write(row, place, v),
                        plain.write(row, place, v));
                case 4 -> due("paste(" + row + ", " + place + ", " + to + ", " + at + ", " + n % 7 + ")",
                        hands.paste(row, place, to, at, n % 7), plain.paste(row, place, to, at, n % 7));
                case 5 -> due("mending(" + row + ", 0)", hands.mending(row, 0), plain.mending(row, 0));
                case 6 -> due("mending(" + row + ", 1)", hands.mending(row, 1), plain.mending(row, 1));
                case 7 -> due("judge(" + row + ")", hands.judge(row), plain.judge(row));
                default -> due("count(" + n + ")", hands.count(n), plain.count(n));
            }
        }

        boolean go() {
            for (int tries = 0; tries < 3 && plain.leaf.n() == 0; tries++) {
                tellText();
            }
            for (int row = 0; row < 4; row++) {
                due("row(" + row + ", 1, 6)", hands.row(row, 1, 6), plain.row(row, 1, 6));
            }
            while (calls.size() < CALLS - 60 && !wrong) {
                int dice = any(100);
                if (dice == 0) {
                    tellText();
                } else if (dice < 20) {
                    act();
                } else if (dice < 40) {
                    askStrokes();
                } else if (dice < 62) {
                    askSight();
                } else if (dice < 82) {
                    askWhatIf();
                } else {
                    askRows();
                }
            }
            return !wrong;
        }
    }

    public static void main(String[] args) {
        int runs = args.length > 0 ? Integer.parseInt(args[0]) : RUNS;
        int wrong = 0;
        long calls = 0;
        for (long seed = 1; seed <= runs && wrong < 3; seed++) {
            Run run = new Run(seed);
            wrong += run.go() ? 0 : 1;
            calls += run.calls.size();
        }
        System.out.println("random runs: " + calls + " answers, " + wrong + " runs not as due");
        if (wrong != 0) {
            System.exit(1);
        }
    }
}
