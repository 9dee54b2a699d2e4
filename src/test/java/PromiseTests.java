/** Each promise of the document by plain cases, edges and wrong inputs, worked out by hand. */
public final class PromiseTests extends Checks {
    private static void newObject() {
        TwoHands hands = new TwoHands();
        for (int what = 0; what <= 12; what++) {
            due("count(" + what + ")", hands.count(what), what == 8 || what == 9 ? 3 : 0);
        }
        due("NONE", TwoHands.NONE, -1);
    }

    private static void feed() {
        TwoHands hands = new TwoHands();
        for (int i = 1; i <= 45; i++) {
            due("feed", hands.feed(0x20202020, 0x20202020, 0x20202020, 0x20202020, 0x20202020), 20 * i);
        }
        due("feed", hands.feed(0, 0, 0, 0, 0), -3);
        due("count(7)", hands.count(7), 900);
        due("tell", hands.tell(900), 0);
        due("count(7)", hands.count(7), 0);
        // the highest byte first: "page 7 9;" and blanks
        due("feed", hands.feed(0x70616765, 0x20372039, 0x3b202020, 0x20202020, 0x20202020), 20);
        due("tell", hands.tell(9), 1);
        due("count(8)", hands.count(8), 7);
        due("count(9)", hands.count(9), 9);
        hands.feed(-1, 0, 0, 0, 0);
        due("a byte 255", hands.tell(20), -31);
        due("its place", hands.fault(1), 0);
    }

    private static void tell() {
        TwoHands hands = new TwoHands();
        due("tell(-1)", hands.tell(-1), -3);
        feedText(hands, "page 9 9;");
        due("tell(21)", hands.tell(21), -3);
        due("tell(MIN)", hands.tell(MIN), -3);
        due("tell(MAX)", hands.tell(MAX), -3);
        due("count(7)", hands.count(7), 20);
        due("count(8)", hands.count(8), 3);
        due("tell(9)", hands.tell(9), 1);
        due("count(7)", hands.count(7), 0);
        due("count(8)", hands.count(8), 9);
        due("tell(0)", hands.tell(0), 0);
        due("count(8)", hands.count(8), 3);
        due("22 lines", tellText(hands, LEAF), 22);
        due("in place of all", tellText(hands, "stroke 0 0 0 1 ; "), 1);
        due("strokes", hands.count(0), 1);
        for (int what = 1; what <= 5; what++) {
            due("count(" + what + ")", hands.count(what), 0);
        }
        due("no blanks", tellText(hands, "  page4 5;stroke0 0 0 0003;letter a1 1;  word a ;place 0 0;run0 1;"), 6);
        due("LONG", hands.stroke(0, 3), 3);
        due("a FAULT: all stays", tellText(hands, "page 9 9;stroke 0 0 0 9"), -31);
        due("WIDE", hands.count(8), 4);
        due("LONG", hands.stroke(0, 3), 3);
        hands.weigh(0, 7);
        hands.row(2, 0, 3);
        due("a FAULT keeps ACTS", tellText(hands, "page"), -31);
        due("count(6)", hands.count(6), 1);
        tellText(hands, "");
        due("a text forgets ACTS", hands.count(6), 0);
        due("but not ROWS", hands.count(12), 1);
    }

    private static void fault() {
        TwoHands hands = new TwoHands();
        due("fault(0)", hands.fault(0), 0);
        due("fault(1)", hands.fault(1), -1);
        due("fault(2)", hands.fault(2), -1);
        due("fault(-1)", hands.fault(-1), -1);
        tellText(hands, "stroke 0 0 0 4;");
        due("fault(0)", hands.fault(0), 2);
        due("fault(1)", hands.fault(1), 13);
        hands.tell(5);
        due("kept by a call that is refused", hands.fault(0), 2);
        due("tell(0)", hands.tell(0), 0);
        due("fault(0)", hands.fault(0), 0);
        due("fault(1)", hands.fault(1), -1);
    }

    private static void misplaced() {
        refused("page 9 9", 1, 8);
        refused("page 9 9  ", 1, 10);
        refused("page 9;", 1, 6);
        refused("page 9 9 9;", 1, 9);
        refused(";", 1, 0);
        refused("page 9 9;;", 1, 9);
        refused("page 9 9;page 9 9;", 1, 9);
        refused("stroke 0 0 0 3;page 99 9;", 1, 15);
        refused("pages 9 9;", 1, 0);
        refused("Page 9 9;", 1, 0);
        refused("page 9\n9;", 1, 6);
        refused("7 page;", 1, 0);
        refused("page 9 9;  hands 0 0;", 1, 11);
        refused("letter ab 1 1;", 1, 7);
        refused("letter 1 1 1;", 1, 7);
        refused("letter a;", 1, 8);
        refused("letter a 1 1;word aaaaaaa;", 1, 18);
        refused("word bbbbbbb;", 1, 5);
        refused("word ;", 1, 5);
        refused("word 5;", 1, 5);
        refused("over", 1, 4);
        refused("stroke 0 0 0 3place 0 0;", 1, 14);
        refused("run - 1;", 1, 4);
    }

    private static void outOfBounds() {
        refused("page 2 9;", 2, 5);
        refused("page 25 9;", 2, 5);
        refused("page 24 13;", 2, 8);
        refused("page 24 2;", 2, 8);
        refused("page 00009 9;", 2, 5);
        refused("page 99999999999999 9;", 2, 5);
        refused("page 12 8;stroke 12 0 0 1;", 2, 17);
        refused("page 12 8;stroke 11 8 0 1;", 2, 20);
        refused("page 12 8;stroke 11 7 4 1;", 2, 22);
        refused("page 12 8;stroke 11 7 0 0;", 2, 24);
        refused("page 12 8;stroke 0 0 0 10;", 2, 23);
        refused("page 12 8;stroke 4 0 0 9;", 2, 23);
        refused("page 12 8;stroke 0 0 1 9;", 2, 23);
        refused("page 12 8;stroke 10 0 2 3;", 2, 24);
        refused("page 12 8;stroke 1 0 3 3;", 2, 23);
        refused("page 12 8;stroke 9 6 3 3;", 2, 23);
        refused("hand 0 0;", 2, 5);
        refused("stroke 0 0 0 1;hand 1 0;", 2, 20);
        refused("stroke 0 0 0 1;hand 0 2;", 2, 22);
        refused("stroke 0 0 0 1;over 1 0;", 2, 20);
        refused("stroke 0 0 0 1;over 0 1;", 2, 22);
        refused("letter a 0 1;", 2, 9);
        refused("letter a 512 1;", 2, 9);
        refused("letter a 511 0;", 2, 13);
        refused("letter a 511 100;", 2, 13);
        refused("place 1 0;", 2, 6);
        refused("place 0 1;", 2, 8);
        refused("page 24 12;place 22 0;", 2, 17);
        refused("page 24 12;place 21 10;", 2, 20);
        refused("run 0 1;", 2, 4);
        refused("place 0 0;run 1 1;", 2, 14);
        refused("place 0 0;run 0 0;", 2, 16);
        refused("place 0 0;run 0 2;", 2, 16);
        refused("place 0 0;".repeat(8) + "run 0 7;", 2, 86);
        refused("place 0 0;place 0 0;run 1 1;run 0 3;", 2, 34);
    }

    private static void toldWrong() {
        refused("letter a 1 1;letter a 1 1;", 3, 20);
        refused("letter a 1 1;word aab;", 3, 18);
        refused("word a;letter a 1 1;", 3, 5);
        refused("stroke 0 0 0 3;over 0 0;", 3, 22);
        refused("stroke 0 0 0 3;stroke 0 1 0 3;over 1 0;", 3, 37);
        refused("stroke 0 0 0 3;stroke 0 0 1 3;over 1 0;over 1 0;", 3, 46);
        refused("place 0 0;place 0 0;run 1 1;run 0 2;", 3, 34);
        refused("place 0 0;place 0 0;run 0 2;run 1 1;", 3, 34);
        // chained the other way round already, but without a cell in common
        refused(GRID + "over 0 3;over 3 1;over 1 0;", 3, GRID.length() + 25);
    }

    private static void tooMany() {
        String strokes = "stroke 0 0 0 3;".repeat(12);
        refused(strokes + "stroke 99", 4, 180);
        String letters = "";
        for (char name = 'a'; name < 'k'; name++) {
            letters += "letter " + name + " 1 1;";
        }
        refused(letters + "letter a", 4, 130);
        refused("place 0 0;".repeat(8) + "place 9", 4, 80);
        refused("letter a 1 1;" + "word a;".repeat(12) + "word ?", 4, 13 + 84);
        refused("place 0 0;".repeat(5) + "run 0 1;run 1 1;run 2 1;run 3 1;run 9", 4, 82);
        TwoHands full = told(strokes + letters + "place 0 0;".repeat(8) + "word a;".repeat(12)
                + "run 0 1;run 1 1;run 2 1;run 3 5;");
        due("strokes", full.count(0), 12);
        due("letters", full.count(1), 10);
        due("places", full.count(2), 8);
        due("words", full.count(3), 12);
        due("runs", full.count(4), 4);
        due("orders of twelve", full.orders(), 479001600L);
        due("ahead", full.ahead(3, 11), 239500800L);
        due("ways", full.ways(), 4096);
        due("MEAN", full.span(7, 2), 5500);
        due("asking", full.asking(2), 239500800L);
    }

    private static void ringsAndHands() {
        String two = "stroke 0 0 0 3;stroke 0 0 1 3;";
        refused(two + "over 0 1;over 1 0 9 9", 5, 39);
        refused(two + "hand 0 0;hand 1 1;over 0 1 9", 6, 48);
        refused(two + "over 0 1;hand 0 0;hand 1 1", 6, 48);
        refused(two + "over 0 1;hand 1 1;hand 0 0;", 6, 48);
        refused(GRID + "over 0 3;over 3 1;hand 1 1;hand 0 0;", 6, GRID.length() + 27);
        TwoHands hands = new TwoHands();
        due("5 ahead of 6", tellText(hands, two + "over 0 1;hand 0 1;hand 1 0;over 1 0;"), -35);
        due("the ring", hands.ring(0), 1);
        due("the ring", hands.ring(1), 0);
        due("the ring", hands.ring(2), -1);
        due("the latest counts", tellText(hands, two + "over 0 1;hand 0 0;hand 0 1;hand 1 1;"), 6);
        due("HAND", hands.stroke(0, 4), 2);
    }

    private static void over() {
        TwoHands hands = told(GRID);
        due("over(-1, 0)", hands.over(-1, 0), -2);
        due("over(0, 6)", hands.over(0, 6), -2);
        due("over(6, 6)", hands.over(6, 6), -2);
        due("one", hands.over(0, 0), -5);
        due("no crossing", hands.over(0, 1), -5);
        due("over(0, 3)", hands.over(0, 3), 1);
        due("again", hands.over(0, 3), -5);
        due("no ring yet", hands.ring(0), -1);
        due("ring", hands.over(3, 0), -5);
        due("ring", hands.ring(0), 3);
        due("over(3, 1)", hands.over(3, 1), 2);
        due("over(1, 4)", hands.over(1, 4), 3);
        due("told, though OVER by a chain", hands.over(0, 4), 4);
        hands.hand(0, 0);
        hands.hand(5, 1);
        hands.hand(2, 0);
        due("-9", hands.over(2, 5), -9);
        due("-9 from the end of a chain", hands.over(1, 5), -9);
        due("twos", hands.count(5), 4);
        due("acts", hands.count(6), 7);
        due("ring ahead of -9", hands.over(4, 0), -5);
        due("over(5, 0)", hands.over(5, 0), 5);
    }

    private static void takes() {
        TwoHands hands = told(GRID + "over 0 3;over 3 1;over 1 4;over 0 4;");
        due("takes(0, 6)", hands.takes(0, 6), -2);
        due("takes(-1, 3)", hands.takes(-1, 3), -2);
        due("not told", hands.takes(3, 0), -5);
        due("one", hands.takes(0, 0), -5);
        due("by a chain", hands.takes(0, 1), -5);
        due("below 0", hands.stroke(0, 8), 0b011010);
        due("takes", hands.takes(3, 1), 3);
        due("below 0", hands.stroke(0, 8), 0b011000);
        due("takes", hands.takes(0, 4), 2);
        due("below 0", hands.stroke(0, 8), 0b001000);
        due("above 4", hands.stroke(4, 9), 0b000010);
        due("takes again", hands.takes(0, 4), -5);
        due("acts", hands.count(6), 2);
    }

    private static void hand() {
        TwoHands hands = told(GRID + "over 0 3;over 3 1;");
        due("hand(6, 0)", hands.hand(6, 0), -2);
        due("hand(-1, 9)", hands.hand(-1, 9), -2);
        due("hand(0, 2)", hands.hand(0, 2), -3);
        due("hand(0, -2)", hands.hand(0, -2), -3);
        due("hand", hands.hand(1, 1), 0);
        due("-9", hands.hand(0, 0), -9);
        due("-9", hands.hand(3, 0), -9);
        due("as it was", hands.hand(1, 1), 2);
        due("acts", hands.count(6), 2);
        due("hand", hands.hand(1, 0), 2);
        due("hand", hands.hand(0, 0), 0);
        due("-9 from above", hands.hand(1, 1), -9);
        due("hand", hands.hand(1, -1), 1);
        due("HAND", hands.stroke(1, 4), 0);
        due("MUST", hands.stroke(1, 5), 0);
    }

    private static void weigh() {
        TwoHands hands = told(LEAF);
        due("weigh(5, 1)", hands.weigh(5, 1), -2);
        due("weigh(-1, 0)", hands.weigh(-1, 0), -2);
        due("weigh(0, 0)", hands.weigh(0, 0), -3);
        due("weigh(0, 100)", hands.weigh(0, 100), -3);
        due("weigh(0, 99)", hands.weigh(0, 99), 3);
        due("weigh(0, 1)", hands.weigh(0, 1), 99);
        due("WEIGHT", hands.letter(0, 2), 1);
        due("guess", hands.guess(0), 1);
        hands.weigh(0, 6);
        due("guess", hands.guess(0), 0);
    }

    private static void undo() {
        TwoHands hands = told(GRID + "over 0 3;letter a 1 1;");
        due("undo", hands.undo(), -5);
        hands.over(3, 1);
        hands.takes(0, 3);
        hands.hand(0, 1);
        hands.hand(0, 0);
        hands.hand(0, -1);
        hands.weigh(0, 9);
        hands.over(3, 3);
        due("acts", hands.count(6), 6);
        due("undo weigh", hands.undo(), 5);
        due("WEIGHT", hands.letter(0, 2), 1);
        due("undo hand", hands.undo(), 4);
        due("HAND", hands.stroke(0, 4), 1);
        due("undo hand", hands.undo(), 3);
        due("HAND", hands.stroke(0, 4), 2);
        due("undo hand", hands.undo(), 2);
        due("HAND", hands.stroke(0, 4), 0);
        due("below 0", hands.stroke(0, 8), 0);
        due("undo takes", hands.undo(), 1);
        due("below 0", hands.stroke(0, 8), 0b001010);
        due("undo over", hands.undo(), 0);
        due("below 0", hands.stroke(0, 8), 0b001000);
        due("undo", hands.undo(), -5);
        for (int i = 1; i <= 14; i++) {
            hands.weigh(0, 10 + i);
            due("acts", hands.count(6), Math.min(i, 12));
        }
        for (int i = 11; i >= 0; i--) {
            due("undo", hands.undo(), i);
        }
        due("undo", hands.undo(), -5);
        due("the thirteenth stays", hands.letter(0, 2), 12);
    }

    private static void stroke() {
        TwoHands hands = told("page 9 9;stroke 8 1 3 7;stroke 2 1 2 6;stroke 5 0 1 8;over 2 0;over 0 1;hand 0 1;");
        long[] first = {8, 1, 3, 7, 2, 1, 1, 0b110, 0b010, 0b100};
        for (int what = 0; what < first.length; what++) {
            due("stroke(0, " + what + ")", hands.stroke(0, what), first[what]);
        }
        due("DIRECTION", hands.stroke(1, 2), 2);
        due("MUST", hands.stroke(1, 5), 2);
        due("MUST", hands.stroke(2, 5), 1);
        due("LAYER", hands.stroke(2, 6), 2);
        due("OVER", hands.stroke(2, 8), 0b011);
        due("OVER it", hands.stroke(1, 9), 0b101);
        hands.hand(0, 0);
        due("MUST", hands.stroke(1, 5), 0);
        due("MUST", hands.stroke(0, 5), 0);
        due("MUST", hands.stroke(2, 5), 2);
        due("stroke(0, 10)", hands.stroke(0, 10), -2);
        due("stroke(0, -1)", hands.stroke(0, -1), -2);
        due("stroke(3, 0)", hands.stroke(3, 0), -2);
        due("stroke(-1, 0)", hands.stroke(-1, 0), -2);
    }

    private static void crossing() {
        TwoHands hands = told("page 24 12;stroke 15 11 0 6;stroke 20 11 0 1;stroke 12 11 0 7;stroke 23 0 1 9;");
        due("first along the first", hands.crossing(0, 2), 1115);
        due("the other way round", hands.crossing(2, 0), 1115);
        due("crossing(0, 1)", hands.crossing(0, 1), 1120);
        due("none", hands.crossing(0, 3), -1);
        due("one", hands.crossing(0, 0), -2);
        due("no such", hands.crossing(0, 4), -2);
        due("no such", hands.crossing(-1, 0), -2);
        hands = told("stroke 0 0 2 3;stroke 2 0 3 3;stroke 0 0 0 3;");
        due("in the middle", hands.crossing(0, 1), 101);
        due("at its start", hands.crossing(1, 2), 2);
    }

    private static void ring() {
        TwoHands hands = told(GRID + "over 0 3;over 3 1;over 1 4;over 0 4;over 4 2;over 3 2;over 2 5;over 0 5;");
        due("ring(-1)", hands.ring(-1), -3);
        due("ring(0)", hands.ring(0), -1);
        due("refused", hands.over(5, 0), -5);
        due("ring of two", hands.ring(0), 5);
        due("ring of two", hands.ring(1), 0);
        due("ring of two", hands.ring(2), -1);
        hands.takes(0, 5);
        due("refused", hands.over(5, 0), -5);
        long[] want = {5, 0, 3, 2, -1};
        for (int i = 0; i < want.length; i++) {
            due("the first as a row: ring(" + i + ")", hands.ring(i), want[i]);
        }
        hands.over(0, 1);
        hands.row(0, 1, 2);
        hands.write(0, 0, 3);
        due("mending", hands.mending(0, 1), 1);
        due("tell", hands.tell(0), 0);
        due("stays", hands.ring(3), 2);
        due("ring(MAX)", hands.ring(MAX), -1);
    }

    private static void orders() {
        TwoHands hands = told(GRID + "over 0 5;over 3 1;");
        long[] want = {1, 2, 3, 4, 5, 0, -1};
        for (int i = 0; i < want.length; i++) {
            due("order(" + i + ")", hands.order(i), want[i]);
        }
        due("order(-1)", hands.order(-1), -3);
        due("orders", hands.orders(), 180);
        due("ahead", hands.ahead(1, 3), 180);
        due("ahead", hands.ahead(3, 1), 0);
        due("ahead", hands.ahead(2, 4), 90);
        due("ahead", hands.ahead(1, 2), 120);
        due("ahead", hands.ahead(2, 1), 60);
        due("one", hands.ahead(2, 2), -2);
        due("no such", hands.ahead(2, 6), -2);
        due("no such", hands.ahead(-1, 2), -2);
        hands.takes(0, 5);
        due("orders", hands.orders(), 360);
        hands.undo();
        due("orders", hands.orders(), 180);
        due("empty", new TwoHands().orders(), 1);
    }

    private static void ways() {
        TwoHands hands = told(GRID + "over 0 5;over 3 1;");
        due("ways", hands.ways(), 36);
        hands.hand(0, 0);
        due("ways", hands.ways(), 12);
        hands.hand(4, 1);
        due("ways", hands.ways(), 6);
        hands.hand(0, 1);
        due("ways", hands.ways(), 12);
        due("empty", new TwoHands().ways(), 1);
    }

    private static void layers() {
        TwoHands hands = told(GRID);
        due("layers", hands.layers(), 1);
        hands.over(0, 3);
        hands.over(3, 1);
        hands.over(1, 4);
        hands.over(0, 4);
        hands.over(5, 1);
        due("layers", hands.layers(), 4);
        long[] want = {3, 1, 0, 2, 0, 2};
        for (int i = 0; i < want.length; i++) {
            due("LAYER of " + i, hands.stroke(i, 6), want[i]);
        }
        due("empty", new TwoHands().layers(), 0);
    }

    private static void topAndSeen() {
        TwoHands hands = told("page 5 4;stroke 0 1 0 5;stroke 2 0 1 4;stroke 1 0 2 3;stroke 4 0 1 4;over 0 1;");
        due("no STROKE", hands.top(0, 0), -1);
        due("one", hands.top(0, 1), 0);
        due("none of three", hands.top(2, 1), -1);
        hands.over(1, 2);
        due("by a chain", hands.top(2, 1), 0);
        due("none of two", hands.top(4, 1), -1);
        due("x too far", hands.top(5, 0), -2);
        due("y too far", hands.top(0, 4), -2);
        due("below 0", hands.top(-1, 0), -2);
        due("seen 0", hands.seen(0, 0), 0);
        due("not told", hands.seen(0, 1), 2);
        hands.hand(0, 0);
        due("lower", hands.seen(0, 1), 1);
        due("its TOP is lower", hands.seen(2, 1), 1);
        due("MUST be lower, not told", hands.seen(2, 3), 1);
        due("no TOP", hands.seen(4, 1), 2);
        hands.hand(0, -1);
        hands.hand(1, 0);
        due("a lower one beneath", hands.seen(2, 1), 2);
        due("seen(5, 0)", hands.seen(5, 0), -2);
        due("seen(0, -1)", hands.seen(0, -1), -2);
        due("seen(0, 4)", hands.seen(0, 4), -2);
    }

    private static void shows() {
        TwoHands hands = told(LEAF);
        due("shows(0, 0)", hands.shows(0, 0), 325);
        due("shows(1, 1)", hands.shows(1, 1), 2);
        due("shows(0, 2)", hands.shows(0, 2), 186);
        due("shows(2, 0)", hands.shows(2, 0), -2);
        due("shows(-1, 0)", hands.shows(-1, 0), -2);
        due("shows(0, 3)", hands.shows(0, 3), -2);
        due("shows(0, -1)", hands.shows(0, -1), -2);
        hands.hand(0, 0);
        due("after a hand", hands.shows(0, 1), 40);
        hands.undo();
        due("after undo", hands.shows(0, 1), 0);
    }

    private static void letters() {
        TwoHands hands = told("page 5 3;stroke 1 0 1 3;stroke 1 1 0 2;hand 0 0;"
                + "letter a 18 5;letter b 146 9;letter c 178 9;letter d 147 9;letter z 178 1;place 0 0;place 1 0;place 2 0;");
        due("hidden at the crossing and behind it", hands.shows(0, 2), 16 + 32);
        due("seen 1", hands.shows(0, 1), 2 + 128);
        due("fits", hands.fits(0), 0b10110);
        due("sure without RUN", hands.sure(0), 0b10110);
        due("nothing fits", hands.fits(1), 0);
        due("guess", hands.guess(0), 1);
        due("guess of none", hands.guess(1), -1);
        due("fits(3)", hands.fits(3), -2);
        due("fits(-1)", hands.fits(-1), -2);
        due("sure(3)", hands.sure(3), -2);
        due("guess(3)", hands.guess(3), -2);
        due("odds", hands.odds(0, 1), Float.floatToIntBits(9f / 19f));
        due("odds", hands.odds(0, 4), Float.floatToIntBits(1f / 19f));
        due("odds of none", hands.odds(0, 0), 0);
        due("odds of none", hands.odds(1, 0), 0);
        due("odds(3, 0)", hands.odds(3, 0), -2);
        due("odds(0, 5)", hands.odds(0, 5), -2);
        due("odds(0, -1)", hands.odds(0, -1), -2);
        due("NAME", hands.letter(4, 0), 26);
        due("FORM", hands.letter(3, 1), 147);
        due("WEIGHT", hands.letter(0, 2), 5);
        due("PLACES", hands.letter(1, 3), 1);
        due("PLACES", hands.letter(0, 3), 0);
        due("letter(5, 0)", hands.letter(5, 0), -2);
        due("letter(-1, 0)", hands.letter(-1, 0), -2);
        due("letter(0, 4)", hands.letter(0, 4), -2);
        due("reads", hands.reads(0), '.');
        due("reads", hands.reads(1), '?');
        due("reads(3)", hands.reads(3), -1);
        due("reads(-1)", hands.reads(-1), 3);
        due("reads(-2)", hands.reads(-2), -3);
        hands.over(0, 1);
        due("the crossing shows, and what is beneath MUST be lower", hands.shows(0, 1), 2 + 16 + 32 + 128);
        hands = told("letter q 511 99;place 0 0;stroke 0 0 0 3;stroke 0 1 0 3;stroke 0 2 0 3;");
        due("one alone", hands.reads(0), 'q');
        due("odds of one", hands.odds(0, 0), Float.floatToIntBits(1f));
        due("no places", new TwoHands().reads(0), -1);
    }

    private static void words() {
        String page = "page 12 3;stroke 0 0 0 9;stroke 0 1 0 9;stroke 0 2 0 9;";
        String text = page + "letter a 511 1;letter b 1 4;letter c 511 2;place 0 0;place 3 0;place 6 0;place 9 0;"
                + "word ab;word ca;word cc;word abc;word b;word ac;run 0 2;run 3 1;";
        TwoHands hands = told(text);
        due("words", hands.words(0, -1), 4);
        due("words(0, 3)", hands.words(0, 3), 5);
        due("words(0, 4)", hands.words(0, 4), -1);
        due("words(0, -2)", hands.words(0, -2), -3);
        due("words(2, -2)", hands.words(2, -2), -2);
        due("words(-1, 0)", hands.words(-1, 0), -2);
        due("none fits an empty place", hands.words(1, -1), 0);
        due("words(1, 0)", hands.words(1, 0), -1);
        due("likely: of like ones the first", hands.likely(0), 0);
        hands.weigh(2, 3);
        due("likely", hands.likely(0), 2);
        due("likely of none", hands.likely(1), -1);
        due("likely(2)", hands.likely(2), -2);
        due("sure", hands.sure(0), 0b101);
        due("sure", hands.sure(1), 0b111);
        due("sure by itself", hands.sure(2), 0b111);
        due("sure of none", hands.sure(3), 0);
        float product = 1f * (1f / 4f) * (4f / 8f);
        due("likelihood", hands.likelihood(0, 0), Float.floatToIntBits(product));
        product = 1f * (3f / 4f) * (3f / 8f);
        due("likelihood", hands.likelihood(0, 2), Float.floatToIntBits(product));
        due("of another length", hands.likelihood(0, 3), 0);
        due("doesn't fit", hands.likelihood(1, 4), 0);
        due("likelihood(2, 0)", hands.likelihood(2, 0), -2);
        due("likelihood(0, 6)", hands.likelihood(0, 6), -2);
        due("likelihood(0, -1)", hands.likelihood(0, -1), -2);
        hands = told("letter a 511 7;letter b 511 99;letter c 511 3;letter d 511 90;place 0 0;place 0 0;place 0 0;"
                + "place 0 0;place 0 0;place 0 0;word abcaaa;word cccccc;word bdabdd;word ddddba;word bbbdbb;"
                + "run 0 6;stroke 0 0 0 3;stroke 0 1 0 3;stroke 0 2 0 3;");
        float small = 1f;
        // letters of the words, place by place: acbd, bcd, cad and b, acbd, acdb, acdb
        float[] odds = {7f / 199f, 99f / 192f, 3f / 199f, 7f / 199f, 7f / 199f, 7f / 199f};
        for (float each : odds) {
            small = small * each;
        }
        due("a small likelihood", hands.likelihood(0, 0), Float.floatToIntBits(small));
        due("likely of six", hands.likely(0), 4);
    }

    private static void asking() {
        TwoHands hands = told(GRID + "over 0 3;over 3 1;");
        due("asking(3)", hands.asking(3), -2);
        due("asking(-1)", hands.asking(-1), -2);
        // a chain of three and three alone: 120 rows; 0, 4 stand 30 to 90; 2, 3 and 2, 4 stand 60 to 60
        due("orders", hands.orders(), 120);
        due("the first", hands.asking(0), 2);
        due("the other", hands.asking(1), 3);
        due("rows", hands.asking(2), 60);
        hands.over(2, 4);
        hands.over(2, 5);
        // 40 rows: 0, 4 stand 5 to 35, 1, 4 stand 26 to 14, 2, 3 stand 8 to 32
        due("the first", hands.asking(0), 1);
        due("the other", hands.asking(1), 4);
        due("rows", hands.asking(2), 26);
        due("none that CROSS", told("stroke 0 0 0 3;stroke 0 1 0 3;").asking(0), -1);
        due("told already", told("stroke 0 0 0 3;stroke 0 0 1 3;over 1 0;").asking(2), -1);
        due("HANDS no matter", told("stroke 0 0 0 3;stroke 0 0 1 3;hand 0 0;hand 1 1;").asking(2), 1);
    }

    private static void scraping() {
        String text = "page 5 3;stroke 0 1 0 3;stroke 1 0 1 3;stroke 2 0 1 3;hand 0 0;over 1 0;place 0 0;place 0 0;place 2 0;"
                + "letter a 56 1;letter b 186 1;letter c 73 1;";
        TwoHands hands = told(text);
        // all cells of 1 and 2 are hidden; each place 0, 0 counts for itself
        due("loose(0)", hands.loose(0), 0);
        due("loose(1)", hands.loose(1), 6);
        due("loose(2)", hands.loose(2), 9);
        due("loose(3)", hands.loose(3), -2);
        due("loose(-1)", hands.loose(-1), -2);
        due("scrape", hands.scrape(), 2);
        due("clearer", hands.clearer(0, 1), 1);
        due("clearer", hands.clearer(0, 2), 2);
        due("clearer", hands.clearer(0, 0), 0);
        due("clearer(3, 0)", hands.clearer(3, 0), -2);
        due("clearer(0, 3)", hands.clearer(0, 3), -2);
        due("hidden", hands.count(10), 6 + 6 + 3);
        due("none has any", told("stroke 0 0 0 3;hand 0 0;place 0 0;").scrape(), -1);
        due("without places", told("stroke 0 0 0 3;").scrape(), -1);
        due("of like ones the first", told("stroke 0 0 0 3;stroke 0 1 0 3;place 0 0;").scrape(), 0);
    }

    private static void span() {
        TwoHands hands = told(GRID + "over 0 3;over 3 1;");
        due("first", hands.span(0, 0), 2);
        due("last", hands.span(0, 1), 5);
        due("last", hands.span(1, 1), 3);
        due("MEAN", hands.span(3, 2), 2500);
        due("MEAN", hands.span(0, 2), 4250);
        due("MEAN", hands.span(1, 2), 750);
        due("span(0, 3)", hands.span(0, 3), -2);
        due("span(0, -1)", hands.span(0, -1), -2);
        due("span(6, 0)", hands.span(6, 0), -2);
        hands = told("stroke 0 0 0 3;stroke 0 0 1 3;stroke 0 0 2 3;over 0 1;");
        due("cut", hands.span(1, 2), 333);
        due("cut", hands.span(0, 2), 1666);
    }

    private static void paired() {
        TwoHands hands = told(GRID + "over 0 3;over 3 1;");
        due("between them", hands.paired(0, 1), 0);
        due("between them", hands.paired(1, 0), 0);
        due("one behind the other", hands.paired(0, 3), 1);
        due("one behind the other", hands.paired(3, 0), 1);
        due("free", hands.paired(2, 0), 1);
        due("one", hands.paired(2, 2), -2);
        due("no such", hands.paired(2, 6), -2);
        due("no such", hands.paired(-1, 2), -2);
    }

    private static void spoilt() {
        TwoHands hands = told(LEAF);
        due("less fit", hands.spoilt(0, 0), 1003);
        due("as many", hands.spoilt(0, 1), 1000);
        due("more fit", told("stroke 0 0 0 3;hand 0 0;place 0 0;letter a 1 1;").spoilt(0, 1), 999);
        TwoHands none = told("stroke 0 0 0 3;stroke 0 0 1 3;over 0 1;hand 1 1;");
        due("no WAY", none.spoilt(0, 0), 100000);
        due("a WAY", none.spoilt(1, 0), 1000);
        due("nothing is changed", none.stroke(1, 4), 2);
        due("spoilt(4, 2)", hands.spoilt(4, 2), -2);
        due("spoilt(-1, 0)", hands.spoilt(-1, 0), -2);
        due("spoilt(0, -1)", hands.spoilt(0, -1), -3);
        due("spoilt(0, 2)", hands.spoilt(0, 2), -3);
        due("acts", hands.count(6), 0);
    }

    private static void rows() {
        TwoHands hands = new TwoHands();
        due("row(4, 5, 0)", hands.row(4, 5, 0), -2);
        due("row(-1, 0, 0)", hands.row(-1, 0, 0), -2);
        due("row(0, -1, 0)", hands.row(0, -1, 0), -3);
        due("row(0, 2, 0)", hands.row(0, 2, 0), -3);
        due("row(0, 0, -1)", hands.row(0, 0, -1), -3);
        due("row(0, 0, 13)", hands.row(0, 0, 13), -3);
        due("count(12)", hands.count(12), 0);
        due("row(0, 0, 12)", hands.row(0, 0, 12), 0);
        due("row(3, 1, 0)", hands.row(3, 1, 0), 0);
        due("a ROW of no numbers", hands.count(12), 2);
        due("write(3, 0, 1)", hands.write(3, 0, 1), -7);
        due("write(1, -1, 1)", hands.write(1, -1, 1), -6);
        due("write(4, 0, 1)", hands.write(4, 0, 1), -2);
        due("write(0, 12, 1)", hands.write(0, 12, 1), -7);
        due("write(0, -1, 1)", hands.write(0, -1, 1), -7);
        due("write(0, 11, 70000)", hands.write(0, 11, 70000), 4464);
        due("write(0, 0, 40000)", hands.write(0, 0, 40000), -25536);
        due("write(0, 0, -1)", hands.write(0, 0, -1), -1);
        hands.row(1, 1, 2);
        due("write(1, 1, 70000)", hands.write(1, 1, 70000), 70000);
        due("write(1, 1, MIN)", hands.write(1, 1, MIN), MIN);
        due("judge(3)", hands.judge(3), 0);
        due("mending(3, 0)", hands.mending(3, 0), 1);
    }

    private static void paste() {
        TwoHands hands = told("letter a 511 1;letter b 511 1;letter c 511 1;letter d 511 1;"
                + "stroke 0 0 0 3;stroke 0 1 0 3;stroke 0 2 0 3;place 0 0;place 0 0;place 0 0;place 0 0;");
        due("nothing", hands.paste(0, 0, 1, 0, 0), -6);
        hands.row(0, 0, 4);
        due("nothing in one", hands.paste(0, 0, 1, 0, 1), -6);
        due("nothing in one", hands.paste(1, 0, 0, 0, 1), -6);
        due("no such", hands.paste(4, 0, 1, 0, 1), -2);
        due("no such", hands.paste(1, 0, -1, 0, 1), -2);
        hands.row(1, 1, 4);
        due("two sorts ahead of places", hands.paste(0, 9, 1, 0, 1), -8);
        hands.row(1, 0, 3);
        for (int i = 0; i < 4; i++) {
            hands.write(0, i, 5 + i);
        }
        due("too many", hands.paste(0, 0, 1, 0, 4), -7);
        due("too far", hands.paste(0, 2, 1, 0, 3), -7);
        due("too far", hands.paste(0, 0, 1, 2, 2), -7);
        due("below 0", hands.paste(0, -1, 1, 0, 1), -7);
        due("below 0", hands.paste(0, 0, 1, -1, 1), -7);
        due("below 0", hands.paste(0, 0, 1, 0, -1), -7);
        due("wraps", hands.paste(0, MAX, 1, 0, 2), -7);
        due("wraps", hands.paste(0, 1, 1, 0, MAX), -7);
        due("at the end", hands.paste(0, 4, 1, 3, 0), 0);
        due("beyond the end", hands.paste(0, 5, 1, 3, 0), -7);
        due("beyond the end", hands.paste(0, 4, 1, 4, 0), -7);
        // as they were: 5 6 7 8 becomes 5 5 6 7, seen by judge() once 5 is taken off each
        due("its own", hands.paste(0, 0, 0, 1, 3), 0);
        due("judge", hands.judge(0), 0);
        int[] letters = {0, 1, 2, 3};
        hands.row(2, 1, 4);
        for (int i = 0; i < 4; i++) {
            hands.write(2, i, letters[i]);
        }
        hands.paste(2, 0, 2, 1, 3);
        hands.row(3, 1, 4);
        hands.paste(2, 0, 3, 0, 4);
        due("judge", hands.judge(3), 4);
        hands.write(2, 0, 9);
        hands.paste(2, 0, 2, 1, 3);
        due("the second is the 9 now", hands.judge(2), 0);
        hands.write(2, 0, 0);
        due("the second is the 9 now", hands.judge(2), 1);
    }

    private static void mending() {
        TwoHands hands = told(GRID + "over 0 3;hand 4 0;hand 5 1;");
        due("mending(4, 0)", hands.mending(4, 0), -2);
        due("mending(0, 2)", hands.mending(0, 2), -2);
        due("mending(0, -1)", hands.mending(0, -1), -2);
        due("nothing", hands.mending(0, 0), -6);
        hands.row(0, 1, 12);
        int[] twos = {3, 1, 1, 0, 1, 3, 4, 2, 2, 5, 6, 0};
        for (int i = 0; i < twos.length; i++) {
            hands.write(0, i, twos[i]);
        }
        // taken: 3 over 1, 4 over 2; out: no crossing, a ring, no way, no stroke
        due("left out", hands.mending(0, 1), 0b110110);
        due("ORDERS then", hands.mending(0, 0), 60);
        due("ORDERS as ever", hands.orders(), 360);
        due("ahead as ever", hands.ahead(3, 0), 360);
        due("twos", hands.count(5), 1);
        due("acts", hands.count(6), 0);
        due("no ring", hands.ring(0), -1);
        hands.row(0, 0, 3);
        hands.write(0, 0, 0);
        hands.write(0, 1, 4);
        hands.write(0, 2, 9);
        due("what is left over", hands.mending(0, 1), 0);
        due("ORDERS then", hands.mending(0, 0), 240);
        due("ways", hands.ways(), 12);
    }

    private static void judge() {
        TwoHands hands = told(LEAF);
        due("judge(4)", hands.judge(4), -2);
        due("judge(-1)", hands.judge(-1), -2);
        due("nothing", hands.judge(0), -6);
        hands.row(0, 0, 3);
        hands.write(0, 0, 1);
        due("the second isn't", hands.judge(0), 1);
        hands.write(0, 1, 4);
        due("beyond the last", hands.judge(0), 2);
        hands.write(0, 1, -1);
        due("below 0", hands.judge(0), 1);
        hands.write(0, 1, 35);
        due("no LETTER", hands.judge(0), 1);
        hands.write(0, 0, 2);
        hands.write(0, 1, 3);
        due("the first isn't", hands.judge(0), 0);
    }

    private static void count() {
        TwoHands hands = told(LEAF);
        long[] want = {4, 5, 2, 5, 1, 2, 0, 0, 8, 6, 7, 4, 0, -1};
        for (int what = 0; what < want.length; what++) {
            due("count(" + what + ")", hands.count(what), want[what]);
        }
        due("count(-1)", hands.count(-1), -1);
    }

    public static void main(String[] args) {
        sentence("1 new object");
        newObject();
        sentence("2 feed");
        feed();
        sentence("3 tell");
        tell();
        sentence("4 fault");
        fault();
        misplaced();
        outOfBounds();
        toldWrong();
        tooMany();
        ringsAndHands();
        sentence("5 over");
        over();
        sentence("6 takes");
        takes();
        sentence("7 hand");
        hand();
        sentence("8 weigh");
        weigh();
        sentence("9 undo");
        undo();
        sentence("10 stroke");
        stroke();
        sentence("11 crossing");
        crossing();
        sentence("12 ring");
        ring();
        sentence("13 order, 14 orders, 15 ahead");
        orders();
        sentence("16 ways");
        ways();
        sentence("17 layers");
        layers();
        sentence("18 top, 19 seen");
        topAndSeen();
        sentence("20 shows");
        shows();
        sentence("21 fits, 22 sure, 23 odds, 24 guess, 27 reads, 28 letter");
        letters();
        sentence("25 words, 26 likely, 35 likelihood");
        words();
        sentence("29 asking");
        asking();
        sentence("30 loose, 31 scrape, 32 clearer");
        scraping();
        sentence("33 span");
        span();
        sentence("34 paired");
        paired();
        sentence("36 spoilt");
        spoilt();
        sentence("37 row, 38 write");
        rows();
        sentence("39 paste");
        paste();
        sentence("40 mending");
        mending();
        sentence("41 judge");
        judge();
        sentence("42 count");
        count();
        end("promises");
    }
}
