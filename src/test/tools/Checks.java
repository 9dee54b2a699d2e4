import java.util.function.Consumer;

/** What the tests have in common: an answer held against the one that is due, texts, and all that can be asked. */
abstract class Checks {
    static final int MIN = Integer.MIN_VALUE;
    static final int MAX = Integer.MAX_VALUE;

    /** Three strokes to the right through three strokes down: each of 0, 1, 2 CROSSES each of 3, 4, 5. */
    static final String GRID = "page 6 6;stroke 0 0 0 6;stroke 0 2 0 6;stroke 0 4 0 6;"
            + "stroke 1 0 1 6;stroke 3 0 1 6;stroke 5 0 1 6;";
    /** Something of each kind. */
    static final String LEAF = "page 8 6;stroke 0 1 0 6;stroke 2 0 1 5;stroke 4 0 1 4;stroke 0 3 0 5;"
            + "over 1 0;over 0 2;hand 1 1;hand 2 0;"
            + "letter a 186 3;letter b 146 5;letter c 56 2;letter d 26 4;letter e 2 4;place 1 0;place 3 2;"
            + "word ad;word be;word cc;word ea;word d;run 0 2;";

    private static String sentence = "";
    private static int asked = 0;
    private static int wrong = 0;
    private static int sentences = 0;

    /** What the checks that follow hold the class to. */
    static void sentence(String words) {
        sentence = words;
        sentences++;
    }

    static void due(String call, long got, long want) {
        asked++;
        if (got != want) {
            wrong++;
            System.out.println(sentence + ": " + call + " answered " + got + ", due is " + want);
        }
    }

    static void dueText(String call, String got, String want) {
        asked++;
        if (!got.equals(want)) {
            wrong++;
            System.out.println(sentence + ": " + call + " answered\n    " + got + "\n  due is\n    " + want);
        }
    }

    static void end(String name) {
        System.out.println(name + ": " + sentences + " sentences, " + asked + " answers, " + wrong + " not as due");
        if (wrong != 0) {
            System.exit(1);
        }
    }

    /** Twenty bytes a feed, those behind the text being no part of it. */
    static int feedText(TwoHands hands, String text) {
        int answer = hands.count(7);
        for (int i = 0; i < text.length(); i += 20) {
            int[] five = new int[5];
            for (int k = 0; k < 20; k++) {
                int sign = i + k < text.length() ? text.charAt(i + k) : 0;
                five[k / 4] |= sign << (24 - 8 * (k % 4));
            }
            answer = hands.feed(five[0], five[1], five[2], five[3], five[4]);
        }
        return answer;
    }

    static int tellText(TwoHands hands, String text) {
        feedText(hands, text);
        return hands.tell(text.length());
    }

    static TwoHands told(String text) {
        TwoHands hands = new TwoHands();
        int answer = tellText(hands, text);
        if (answer < 0) {
            wrong++;
            System.out.println(sentence + ": a text was refused by " + answer + " at " + hands.fault(1) + ": " + text);
        }
        return hands;
    }

    /** A text that is taken, with so many LINES. */
    static TwoHands taken(String text, int lines) {
        TwoHands hands = new TwoHands();
        due("tell: " + text, tellText(hands, text), lines);
        due("fault(0): " + text, hands.fault(0), 0);
        due("fault(1): " + text, hands.fault(1), -1);
        due("count(7)", hands.count(7), 0);
        return hands;
    }

    /** A text that is refused: by which FAULT, and where; a new object is as it was. */
    static TwoHands refused(String text, int fault, int place) {
        TwoHands hands = new TwoHands();
        due("tell: " + text, tellText(hands, text), -30 - fault);
        due("fault(0): " + text, hands.fault(0), fault);
        due("fault(1): " + text, hands.fault(1), place);
        for (int what = 0; what <= 12; what++) {
            due("count(" + what + "): " + text, hands.count(what), what == 8 || what == 9 ? 3 : 0);
        }
        return hands;
    }

    /** The text's last piece in angle brackets is where the FAULT is to be: "page <2 9;". */
    static TwoHands refusedAt(String marked, int fault) {
        int place = marked.indexOf('<');
        return refused(marked.substring(0, place) + marked.substring(place + 1), fault, place);
    }

    /** A call that is refused by a code, after which all is as without it. */
    static void refusedCall(String call, Consumer<TwoHands> before, Asked refusedCall, long code) {
        TwoHands untouched = new TwoHands();
        before.accept(untouched);
        TwoHands touched = new TwoHands();
        before.accept(touched);
        due(call, refusedCall.of(touched), code);
        dueText("all that can be asked after " + call, state(touched), state(untouched));
        dueText("all that can be undone after " + call, undone(before, refusedCall), undone(before, hands -> 0));
    }

    interface Asked {
        long of(TwoHands hands);
    }

    /** On an object of its own, so that each one stays below its 512 calls. */
    private static String undone(Consumer<TwoHands> before, Asked call) {
        TwoHands hands = new TwoHands();
        before.accept(hands);
        call.of(hands);
        StringBuilder all = new StringBuilder();
        for (int i = 0; i < 13; i++) {
            all.append(' ').append(hands.undo()).append('/').append(hands.count(5)).append('/').append(hands.ways());
            all.append('/').append(hands.orders()).append('/').append(hands.odds(0, 0));
        }
        int bytes = hands.count(7);
        all.append(" tell ").append(hands.tell(bytes)).append('/').append(hands.fault(1));
        return all.toString();
    }

    /** All that can be asked without a change, as a text; for leaves as small as LEAF and GRID some 400 calls. */
    static String state(TwoHands hands) {
        StringBuilder all = new StringBuilder();
        for (int what = 0; what <= 12; what++) {
            put(all, what == 0 ? "count" : "", hands.count(what));
        }
        put(all, "fault", hands.fault(0));
        put(all, "", hands.fault(1));
        putStrokes(all, hands);
        putCells(all, hands);
        putLetters(all, hands);
        putRuns(all, hands);
        for (int row = 0; row < 4; row++) {
            put(all, "row", hands.judge(row));
            put(all, "", hands.mending(row, 0));
            put(all, "", hands.mending(row, 1));
        }
        return all.toString();
    }

    private static void put(StringBuilder all, String name, long answer) {
        all.append(name.isEmpty() ? "" : "; ").append(name).append(' ').append(answer);
    }

    private static void putStrokes(StringBuilder all, TwoHands hands) {
        int strokes = hands.count(0);
        for (int stroke = 0; stroke < strokes; stroke++) {
            for (int what = 0; what <= 9; what++) {
                put(all, what == 0 ? "stroke" : "", hands.stroke(stroke, what));
            }
            put(all, "order", hands.order(stroke));
            put(all, "mean", hands.span(stroke, 2));
            put(all, "loose", hands.loose(stroke));
            put(all, "spoilt", hands.spoilt(stroke, 0));
            put(all, "", hands.spoilt(stroke, 1));
            for (int other = 0; other < strokes; other++) {
                put(all, other == 0 ? "ahead" : "", hands.ahead(stroke, other));
            }
        }
        for (int i = 0; i < 6; i++) {
            put(all, i == 0 ? "ring" : "", hands.ring(i));
        }
        put(all, "orders", hands.orders());
        put(all, "ways", hands.ways());
        put(all, "layers", hands.layers());
        put(all, "scrape", hands.scrape());
        for (int what = 0; what <= 2; what++) {
            put(all, what == 0 ? "asking" : "", hands.asking(what));
        }
    }

    private static void putCells(StringBuilder all, TwoHands hands) {
        int wide = hands.count(8);
        int high = hands.count(9);
        for (int y = 0; y < high; y++) {
            for (int x = 0; x < wide; x++) {
                put(all, x + y == 0 ? "cells" : "", hands.top(x, y));
                put(all, "", hands.seen(x, y));
            }
        }
    }

    private static void putLetters(StringBuilder all, TwoHands hands) {
        int letters = hands.count(1);
        int places = hands.count(2);
        for (int letter = 0; letter < letters; letter++) {
            for (int what = 0; what <= 3; what++) {
                put(all, what == 0 ? "letter" : "", hands.letter(letter, what));
            }
        }
        for (int place = 0; place < places; place++) {
            put(all, "place", hands.reads(place));
            put(all, "", hands.shows(place, 1));
            put(all, "", hands.shows(place, 2));
            put(all, "", hands.fits(place));
            put(all, "", hands.sure(place));
            put(all, "", hands.guess(place));
            for (int letter = 0; letter < letters; letter++) {
                put(all, "", hands.odds(place, letter));
            }
        }
    }

    private static void putRuns(StringBuilder all, TwoHands hands) {
        int words = hands.count(3);
        int runs = hands.count(4);
        for (int run = 0; run < runs; run++) {
            put(all, "run", hands.words(run, -1));
            put(all, "", hands.likely(run));
            for (int word = 0; word < words; word++) {
                put(all, "", hands.words(run, word));
                put(all, "", hands.likelihood(run, word));
            }
        }
    }
}
