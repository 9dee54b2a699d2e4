/** The calls that ask (promises 10 to 36): their codes, which goes ahead of which, NONE, and the ends of what they answer. */
public final class AskedTests extends Checks {
    /** LEAF has 4 STROKES, 5 LETTERS, 2 PLACES, 5 WORDS, 1 RUN. */
    private static final int[] BEYOND = {-1, -2, 12, 31, 32, 33, 64, MIN, MIN + 1, MAX};
    private static final String COVERED = "stroke 0 0 0 3;stroke 0 1 0 3;stroke 0 2 0 3;";

    private static void leaf(TwoHands hands) {
        tellText(hands, LEAF);
        hands.over(2, 0);
        hands.weigh(3, 7);
    }

    private static void refuses(String call, Asked asked, long code) {
        refusedCall(call, AskedTests::leaf, asked, code);
    }

    private static void strokeCalls() {
        sentence("10: -2, the STROKE, what; nothing changes");
        for (int other : BEYOND) {
            refuses("stroke(" + other + ", 0)", hands -> hands.stroke(other, 0), -2);
            refuses("stroke(0, " + other + ")", hands -> hands.stroke(0, other), -2);
        }
        refuses("stroke(4, 9)", hands -> hands.stroke(4, 9), -2);
        refuses("stroke(3, 10)", hands -> hands.stroke(3, 10), -2);
        sentence("11: -2, one STROKE twice, too; nothing changes");
        for (int other : BEYOND) {
            refuses("crossing(" + other + ", 0)", hands -> hands.crossing(other, 0), -2);
            refuses("crossing(0, " + other + ")", hands -> hands.crossing(0, other), -2);
        }
        for (int stroke = 0; stroke <= 4; stroke++) {
            int one = stroke;
            refuses("crossing twice " + one, hands -> hands.crossing(one, one), -2);
        }
        sentence("11: NONE, they don't CROSS");
        due("crossing(0, 3)", told(LEAF).crossing(0, 3), -1);
        due("crossing(1, 2)", told(LEAF).crossing(1, 2), -1);
        sentence("13: -3, i is below 0");
        for (int i : new int[] {-1, -2, MIN}) {
            refuses("order(" + i + ")", hands -> hands.order(i), -3);
        }
        sentence("13: NONE, not so many");
        for (int i : new int[] {4, 5, 11, 12, 32, MAX}) {
            refuses("order(" + i + ")", hands -> hands.order(i), -1);
        }
        sentence("15: -2, one STROKE twice, too; nothing changes");
        for (int other : BEYOND) {
            refuses("ahead(" + other + ", 0)", hands -> hands.ahead(other, 0), -2);
            refuses("ahead(0, " + other + ")", hands -> hands.ahead(0, other), -2);
        }
        for (int stroke = 0; stroke <= 4; stroke++) {
            int one = stroke;
            refuses("ahead twice " + one, hands -> hands.ahead(one, one), -2);
        }
        sentence("15: none and all of ORDERS");
        due("ahead(1, 2)", told(LEAF).ahead(1, 2), 0);
        due("ahead(2, 1)", told(LEAF).ahead(2, 1), 4);
        sentence("34: -2, one STROKE twice, too; nothing changes");
        for (int other : BEYOND) {
            refuses("paired(" + other + ", 0)", hands -> hands.paired(other, 0), -2);
            refuses("paired(0, " + other + ")", hands -> hands.paired(0, other), -2);
        }
        for (int stroke = 0; stroke <= 4; stroke++) {
            int one = stroke;
            refuses("paired twice " + one, hands -> hands.paired(one, one), -2);
        }
    }

    private static void one() {
        sentence("one STROKE alone");
        TwoHands hands = told("stroke 2 2 3 1;");
        int[] want = {2, 2, 3, 1, 0, 2, 0, 0, 0, 0, -2};
        for (int what = 0; what < want.length; what++) {
            due("stroke(0, " + what + ")", hands.stroke(0, what), want[what]);
        }
        due("order(0)", hands.order(0), 0);
        due("order(1)", hands.order(1), -1);
        due("orders()", hands.orders(), 1);
        due("ways()", hands.ways(), 2);
        due("layers()", hands.layers(), 1);
        due("asking(2)", hands.asking(2), -1);
        for (int what = 0; what < 3; what++) {
            due("span(0, " + what + ")", hands.span(0, what), 0);
        }
        due("top(2, 2)", hands.top(2, 2), 0);
        due("seen(2, 2)", hands.seen(2, 2), 2);
        hands.hand(0, 0);
        due("seen(2, 2)", hands.seen(2, 2), 1);
        hands.hand(0, 1);
        due("seen(2, 2)", hands.seen(2, 2), 2);
    }

    private static void cellCalls() {
        sentence("18, 19: -2, the CELL; nothing changes");
        for (int other : new int[] {-1, 8, 24, MIN, MAX}) {
            refuses("top(" + other + ", 0)", hands -> hands.top(other, 0), -2);
            refuses("seen(" + other + ", 0)", hands -> hands.seen(other, 0), -2);
        }
        for (int other : new int[] {-1, 6, 12, MIN, MAX}) {
            refuses("top(0, " + other + ")", hands -> hands.top(0, other), -2);
            refuses("seen(0, " + other + ")", hands -> hands.seen(0, other), -2);
        }
        refuses("top(8, -1)", hands -> hands.top(8, -1), -2);
        sentence("18: NONE, no STROKE is there, or there is no TOP");
        TwoHands hands = told("stroke 0 0 0 1;stroke 0 0 1 1;stroke 0 0 2 1;");
        due("top(1, 1)", hands.top(1, 1), -1);
        due("seen(1, 1)", hands.seen(1, 1), 0);
        due("top(0, 0)", hands.top(0, 0), -1);
        hands.over(2, 0);
        due("OVER one of two others", hands.top(0, 0), -1);
        hands.over(1, 0);
        due("two OVER the third", hands.top(0, 0), -1);
        hands.over(2, 1);
        due("OVER all others", hands.top(0, 0), 2);
        hands.takes(2, 0);
        due("OVER all others by a CHAIN", hands.top(0, 0), 2);
        sentence("19: no TOP is hidden, even if all MUST be lower");
        hands = told("stroke 0 0 0 1;stroke 0 0 1 1;hand 0 0;hand 1 0;place 0 0;");
        due("seen(0, 0)", hands.seen(0, 0), 2);
        due("shows(0, 2)", hands.shows(0, 2), 1);
        hands.over(0, 1);
        due("seen(0, 0)", hands.seen(0, 0), 1);
        sentence("19: an upper TOP hides, a TOP that MUST be lower shows, though only what is OVER it was told");
        hands = told("stroke 0 0 0 3;stroke 0 0 1 3;stroke 0 2 0 3;over 1 0;hand 1 0;");
        due("seen(2, 0): 0 MUST be lower by 1", hands.seen(2, 0), 1);
        hands.hand(1, 1);
        due("seen(2, 0)", hands.seen(2, 0), 2);
        due("seen(0, 0)", hands.seen(0, 0), 2);
    }

    private static void placeCalls() {
        sentence("20: -2, the PLACE, what; nothing changes");
        for (int other : BEYOND) {
            refuses("shows(" + other + ", 0)", hands -> hands.shows(other, 0), -2);
            refuses("shows(0, " + other + ")", hands -> hands.shows(0, other), -2);
        }
        refuses("shows(2, 0)", hands -> hands.shows(2, 0), -2);
        refuses("shows(1, 3)", hands -> hands.shows(1, 3), -2);
        sentence("21, 22, 24: -2, the PLACE; nothing changes");
        for (int other : BEYOND) {
            refuses("fits(" + other + ")", hands -> hands.fits(other), -2);
            refuses("sure(" + other + ")", hands -> hands.sure(other), -2);
            refuses("guess(" + other + ")", hands -> hands.guess(other), -2);
        }
        refuses("fits(2)", hands -> hands.fits(2), -2);
        refuses("sure(2)", hands -> hands.sure(2), -2);
        refuses("guess(2)", hands -> hands.guess(2), -2);
        sentence("23: -2, the PLACE, the LETTER; nothing changes");
        for (int other : BEYOND) {
            refuses("odds(" + other + ", 0)", hands -> hands.odds(other, 0), -2);
            refuses("odds(0, " + other + ")", hands -> hands.odds(0, other), -2);
        }
        refuses("odds(2, 0)", hands -> hands.odds(2, 0), -2);
        refuses("odds(0, 5)", hands -> hands.odds(0, 5), -2);
        sentence("28: -2, the LETTER, what; nothing changes");
        for (int other : BEYOND) {
            refuses("letter(" + other + ", 0)", hands -> hands.letter(other, 0), -2);
            refuses("letter(0, " + other + ")", hands -> hands.letter(0, other), -2);
        }
        refuses("letter(5, 0)", hands -> hands.letter(5, 0), -2);
        refuses("letter(4, 4)", hands -> hands.letter(4, 4), -2);
        sentence("27: -3, i is below NONE; NONE, not so many");
        for (int i : new int[] {-2, -3, MIN}) {
            refuses("reads(" + i + ")", hands -> hands.reads(i), -3);
        }
        for (int i : new int[] {2, 3, 8, MAX}) {
            refuses("reads(" + i + ")", hands -> hands.reads(i), -1);
        }
    }

    private static void sights() {
        sentence("21: all FIT where all is hidden, none where a CELL of each FORM is empty");
        TwoHands hands = told(COVERED + "letter a 1 1;letter b 511 1;letter c 256 1;place 0 0;");
        due("fits(0)", hands.fits(0), 0b111);
        due("shows(0, 2)", hands.shows(0, 2), 511);
        hands.hand(0, 0);
        due("the first line shows", hands.fits(0), 0b010);
        hands.hand(1, 0);
        hands.hand(2, 0);
        due("all shows", hands.fits(0), 0b010);
        due("shows(0, 1)", hands.shows(0, 1), 511);
        due("all is empty", told("letter a 1 1;letter b 511 1;place 0 0;").fits(0), 0);
        sentence("23: 0 if it isn't one of SURE; the one alone, and the least WEIGHT beside the greatest");
        hands = told(COVERED + "letter a 511 1;letter b 511 99;letter c 511 99;place 0 0;word a;place 0 0;run 1 1;");
        due("odds(0, 0)", hands.odds(0, 0), Float.floatToIntBits(1f / 199f));
        due("odds(0, 1)", hands.odds(0, 1), Float.floatToIntBits(99f / 199f));
        due("odds(1, 0)", hands.odds(1, 0), 0x3f800000);
        due("odds(1, 1)", hands.odds(1, 1), 0);
        sentence("24: of like ones the first; NONE, there is none");
        due("guess(0)", hands.guess(0), 1);
        hands.weigh(0, 99);
        due("guess(0)", hands.guess(0), 0);
        hands.weigh(0, 98);
        due("guess(0)", hands.guess(0), 1);
        due("guess(1)", hands.guess(1), 0);
        hands.tell(0);
        tellText(hands, "letter a 511 1;place 0 0;");
        due("guess(0)", hands.guess(0), -1);
        sentence("23: ten LETTERS of SURE, the greatest sum of WEIGHTS");
        StringBuilder text = new StringBuilder(COVERED + "place 0 0;");
        for (char name = 'a'; name <= 'j'; name++) {
            text.append("letter ").append(name).append(" 511 99;");
        }
        hands = told(text.toString());
        for (int letter = 0; letter < 10; letter++) {
            due("odds(0, " + letter + ")", hands.odds(0, letter), Float.floatToIntBits(99f / 990f));
        }
        due("guess(0)", hands.guess(0), 0);
        hands.weigh(9, 1);
        due("odds(0, 9)", hands.odds(0, 9), Float.floatToIntBits(1f / 892f));
        sentence("READS: the NAME of the one, . if there are more, ? if there is none");
        hands = told(COVERED + "letter z 511 1;letter a 511 1;place 0 0;place 0 0;place 0 0;word z;word a;word aa;run 1 1;run 2 1;");
        due("reads(0)", hands.reads(0), '.');
        due("reads(1)", hands.reads(1), '.');
        hands = told(COVERED + "letter z 511 1;letter a 511 1;place 0 0;place 0 0;place 0 0;word z;word aa;run 1 1;");
        due("reads(1)", hands.reads(1), 'z');
        hands = told(COVERED + "letter z 511 1;letter a 511 1;place 0 0;place 0 0;place 0 0;word za;word aa;run 0 1;run 1 2;");
        due("reads(0): no WORD of one letter", hands.reads(0), '?');
        due("reads(1)", hands.reads(1), '.');
        due("reads(2)", hands.reads(2), 'a');
        sentence("28: in how many PLACES it FITS, RUNS or not: none, all");
        due("letter(0, 3)", hands.letter(0, 3), 3);
        due("letter(0, 3)", told("letter a 1 1;place 0 0;place 0 0;").letter(0, 3), 0);
    }

    private static void runCalls() {
        sentence("25: -2, the RUN, ahead of -3; nothing changes");
        for (int other : BEYOND) {
            refuses("words(" + other + ", -1)", hands -> hands.words(other, -1), -2);
            refuses("words(" + other + ", -2)", hands -> hands.words(other, -2), -2);
            refuses("likely(" + other + ")", hands -> hands.likely(other), -2);
            refuses("likelihood(" + other + ", 0)", hands -> hands.likelihood(other, 0), -2);
            refuses("likelihood(0, " + other + ")", hands -> hands.likelihood(0, other), -2);
        }
        refuses("words(1, 0)", hands -> hands.words(1, 0), -2);
        sentence("25: -3, k is below NONE; NONE, not so many");
        for (int k : new int[] {-2, -3, MIN}) {
            refuses("words(0, " + k + ")", hands -> hands.words(0, k), -3);
        }
        for (int k : new int[] {2, 3, 4, 5, 12, MAX}) {
            refuses("words(0, " + k + ")", hands -> hands.words(0, k), -1);
        }
        sentence("26: -2; NONE, there is none");
        refuses("likely(1)", hands -> hands.likely(1), -2);
        due("likely(0)", told("place 0 0;run 0 1;").likely(0), -1);
        sentence("35: -2, WORD, RUN");
        refuses("likelihood(1, 0)", hands -> hands.likelihood(1, 0), -2);
        refuses("likelihood(0, 5)", hands -> hands.likelihood(0, 5), -2);
        due("without WORDS", told("place 0 0;run 0 1;").likelihood(0, 0), -2);
        sentence("35: 0, if it doesn't FIT: too short, too long, a letter that doesn't");
        TwoHands hands = told(COVERED + "letter a 511 3;letter b 511 1;place 0 0;place 0 0;word a;word ab;word aba;word bb;run 0 2;");
        due("likelihood(0, 0)", hands.likelihood(0, 0), 0);
        due("likelihood(0, 2)", hands.likelihood(0, 2), 0);
        due("likelihood(0, 1)", hands.likelihood(0, 1), Float.floatToIntBits(3f / 4f));
        due("likelihood(0, 3)", hands.likelihood(0, 3), Float.floatToIntBits(1f / 4f));
        sentence("26: products of WEIGHTS above what an int holds; of like ones the first");
        String six = COVERED + "letter a 511 99;letter b 511 98;" + "place 0 0;".repeat(6) + "run 0 6;";
        hands = told(six + "word bbbbbb;word aaaaab;word aaaaaa;word abaaaa;word aaaaaa;");
        due("likely(0)", hands.likely(0), 2);
        hands = told(six + "word bbbbbb;word aaaaab;word abaaaa;word baaaaa;");
        due("likely(0)", hands.likely(0), 1);
        sentence("26: each WORD by its own letters, not by the next one's");
        hands = told(six + "word aaaaaa;word baaaaa;word aaaaaa;" + "word aaaaab;".repeat(8) + "word aaaaaa;");
        due("likely(0)", hands.likely(0), 0);
        due("words(0, -1)", hands.words(0, -1), 12);
        due("likelihood(0, 11)", hands.likelihood(0, 11), hands.likelihood(0, 0));
        sentence("26: the least product of WEIGHTS");
        due("likely(0)", told(COVERED + "letter a 511 1;place 0 0;run 0 1;word a;word a;").likely(0), 0);
        sentence("35: the least and the greatest LIKELIHOOD");
        float least = 1f;
        hands = told(COVERED + "letter a 511 1;letter b 511 99;" + "place 0 0;".repeat(6) + "run 0 6;word aaaaaa;word bbbbbb;");
        for (int i = 0; i < 6; i++) {
            least = least * (1f / 100f);
        }
        due("likelihood(0, 0)", hands.likelihood(0, 0), Float.floatToIntBits(least));
        hands = told(COVERED + "letter a 511 1;" + "place 0 0;".repeat(6) + "run 0 6;word aaaaaa;");
        due("likelihood(0, 0)", hands.likelihood(0, 0), 0x3f800000);
    }

    private static void whatIf() {
        sentence("29: -2, what, ahead of NONE; nothing changes");
        for (int what : new int[] {-1, 3, MIN, MAX}) {
            refuses("asking(" + what + ")", hands -> hands.asking(what), -2);
            due("without STROKES", new TwoHands().asking(what), -2);
        }
        sentence("29: NONE, there are no such two: none CROSS, all are OVER");
        for (int what = 0; what < 3; what++) {
            due("none CROSS", told(COVERED).asking(what), -1);
            due("one OVER the other", told("stroke 0 0 0 1;stroke 0 0 0 1;over 1 0;").asking(what), -1);
            String chain = "stroke 0 0 0 1;".repeat(3) + "over 0 1;over 1 2;";
            due("OVER by a CHAIN", told(chain).asking(what), -1);
        }
        sentence("29: of like ones the first pair (the lesser STROKE first, then the other one)");
        TwoHands hands = told("stroke 0 0 0 1;".repeat(4));
        due("asking(0)", hands.asking(0), 0);
        due("asking(1)", hands.asking(1), 1);
        due("asking(2)", hands.asking(2), 12);
        hands.over(1, 0);
        due("asking(0)", hands.asking(0), 2);
        due("asking(1)", hands.asking(1), 3);
        due("asking(2)", hands.asking(2), 6);
        sentence("29: by WAYS of HANDS no matter");
        hands = told("stroke 0 0 0 1;stroke 0 0 0 1;hand 0 0;hand 1 1;");
        due("over(0, 1)", hands.over(0, 1), -9);
        due("asking(0)", hands.asking(0), 0);
        due("asking(2)", hands.asking(2), 1);
        sentence("30, 32: -2; nothing changes");
        for (int other : BEYOND) {
            refuses("loose(" + other + ")", leaf -> leaf.loose(other), -2);
            refuses("clearer(" + other + ", 0)", leaf -> leaf.clearer(other, 0), -2);
            refuses("clearer(0, " + other + ")", leaf -> leaf.clearer(0, other), -2);
        }
        refuses("loose(4)", leaf -> leaf.loose(4), -2);
        refuses("clearer(2, 0)", leaf -> leaf.clearer(2, 0), -2);
        refuses("clearer(0, 4)", leaf -> leaf.clearer(0, 4), -2);
    }

    private static void scraped() {
        sentence("31: NONE, none has any");
        due("no STROKES", told("place 0 0;").scrape(), -1);
        due("no PLACES", told(COVERED).scrape(), -1);
        due("all shows", told("stroke 0 0 0 3;hand 0 0;place 0 0;").scrape(), -1);
        due("two on one CELL, each of which hides", told("stroke 0 0 0 1;stroke 0 0 0 1;place 0 0;").scrape(), -1);
        sentence("31: the least LOOSE there can be");
        due("scrape()", told("stroke 1 1 0 1;place 0 0;").scrape(), 0);
        due("scrape()", told("stroke 0 0 0 1;hand 0 0;stroke 2 2 0 1;place 0 0;").scrape(), 1);
        sentence("31: of like ones the first");
        due("scrape()", told(COVERED + "place 0 0;").scrape(), 0);
        due("scrape()", told("stroke 0 0 0 2;stroke 0 1 0 3;stroke 0 2 0 3;place 0 0;").scrape(), 1);
        sentence("SCRAPED: HANDS, OVER stay: what MUST be lower by it still does");
        TwoHands hands = told("stroke 0 0 0 3;stroke 0 0 1 3;over 1 0;hand 1 0;place 0 0;letter a 7 1;letter b 79 1;");
        due("clearer(0, 1): 0 shows alone", hands.clearer(0, 1), 1);
        due("clearer(0, 0): 1 shows alone", hands.clearer(0, 0), 0);
        due("loose(1)", hands.loose(1), 0);
        due("fits(0)", hands.fits(0), 0b10);
        sentence("SCRAPED: OVER through it stays");
        hands = told("stroke 0 0 0 1;stroke 0 0 0 1;stroke 0 0 0 1;over 0 1;over 1 2;hand 0 0;place 0 0;letter a 1 1;");
        due("clearer(0, 1)", hands.clearer(0, 1), 1);
        due("count(10)", hands.count(10), 0);
        sentence("LOOSE: CELLS that are hidden now and not with it SCRAPED: a CELL may come to be empty, or to show");
        hands = told("stroke 0 0 0 2;stroke 0 0 1 3;over 0 1;hand 1 0;place 0 0;");
        due("loose(0)", hands.loose(0), 2);
        due("loose(1)", hands.loose(1), 0);
        sentence("LOOSE: a CELL that shows now and not with it SCRAPED counts nothing");
        hands = told("stroke 0 0 0 1;stroke 0 0 0 1;stroke 0 0 0 1;over 0 1;over 0 2;hand 0 0;place 0 0;letter a 1 1;letter b 2 1;");
        due("count(10)", hands.count(10), 0);
        due("loose(0)", hands.loose(0), 0);
        due("clearer(0, 0): hidden then", hands.clearer(0, 0), 1);
    }

    private static void spans() {
        sentence("33: -2, the STROKE, what; nothing changes");
        for (int other : BEYOND) {
            refuses("span(" + other + ", 0)", leaf -> leaf.span(other, 0), -2);
            refuses("span(0, " + other + ")", leaf -> leaf.span(0, other), -2);
        }
        refuses("span(4, 0)", leaf -> leaf.span(4, 0), -2);
        refuses("span(3, 3)", leaf -> leaf.span(3, 3), -2);
        sentence("33: its MEAN is cut");
        TwoHands hands = told("stroke 0 0 0 1;".repeat(3) + "over 0 1;");
        due("span(0, 2)", hands.span(0, 2), 1666);
        due("span(1, 2)", hands.span(1, 2), 333);
        due("span(2, 2)", hands.span(2, 2), 1000);
        sentence("33: the greatest MEAN, of the most ORDERS");
        hands = told("stroke 0 0 0 1;".repeat(12) + "over 11 0;over 11 1;over 11 2;over 11 3;over 11 4;over 11 5;");
        hands.over(11, 6);
        hands.over(11, 7);
        hands.over(11, 8);
        hands.over(11, 9);
        hands.over(11, 10);
        due("orders()", hands.orders(), 39916800L);
        due("span(11, 2)", hands.span(11, 2), 11000);
        due("span(0, 2)", hands.span(0, 2), 5000);
        sentence("34: two with one between them in each row");
        hands = told("stroke 0 0 0 1;".repeat(4) + "over 0 1;over 1 2;over 0 2;");
        due("paired(0, 2), told besides", hands.paired(0, 2), 0);
        due("paired(2, 0)", hands.paired(2, 0), 0);
        due("paired(0, 1)", hands.paired(0, 1), 1);
        due("paired(3, 1)", hands.paired(3, 1), 1);
        sentence("36: -2 ahead of -3; nothing changes");
        for (int other : BEYOND) {
            refuses("spoilt(" + other + ", 0)", leaf -> leaf.spoilt(other, 0), -2);
            refuses("spoilt(" + other + ", 2)", leaf -> leaf.spoilt(other, 2), -2);
        }
        sentence("36: -3, the HAND (0, 1; not NONE); nothing changes");
        for (int hand : new int[] {-1, 2, -2, MIN, MAX}) {
            refuses("spoilt(0, " + hand + ")", leaf -> leaf.spoilt(0, hand), -3);
        }
        sentence("36: 100000, if no WAY of HANDS would be left");
        hands = told("stroke 0 0 0 1;stroke 0 0 0 1;over 0 1;hand 0 0;place 0 0;letter a 1 1;letter b 2 1;");
        due("spoilt(1, 1)", hands.spoilt(1, 1), 100000);
        due("spoilt(1, 0)", hands.spoilt(1, 0), 1000);
        due("spoilt(0, 1)", hands.spoilt(0, 1), 1000);
        sentence("36: told 1000 more; below that, more would");
        hands = told(COVERED + "letter a 511 1;letter b 1 1;letter c 63 1;place 0 0;place 0 0;");
        due("b FITS neither PLACE then", hands.spoilt(0, 0), 1002);
        due("b FITS neither PLACE then", hands.spoilt(1, 0), 1002);
        due("nor does c", hands.spoilt(2, 0), 1004);
        hands.hand(2, 0);
        due("more", hands.spoilt(2, 1), 996);
        due("as many", hands.spoilt(2, 0), 1000);
        due("HAND stays", hands.stroke(2, 4), 1);
        due("count(6)", hands.count(6), 1);
    }

    private static void counts() {
        sentence("42: 11 twos that CROSS, 10 hidden CELLS, at their greatest");
        TwoHands hands = told("stroke 0 0 0 3;stroke 0 1 0 3;stroke 0 2 0 3;" + "stroke 0 0 1 3;".repeat(9)
                + "place 0 0;".repeat(8));
        due("count(11)", hands.count(11), 3 * 9 + 36);
        due("count(10)", hands.count(10), 72);
        due("count(11) of twelve", told("stroke 0 0 0 1;".repeat(12)).count(11), 66);
        due("count(5) of twelve", allTold().count(5), 66);
    }

    private static TwoHands allTold() {
        StringBuilder text = new StringBuilder("stroke 0 0 0 1;".repeat(12));
        for (int b = 1; b < 12; b++) {
            for (int a = 0; a < b && a < 6; a++) {
                text.append("over ").append(a).append(' ').append(b).append(';');
            }
        }
        TwoHands hands = told(text.toString());
        for (int a = 6; a < 12; a++) {
            for (int b = a + 1; b < 12; b++) {
                hands.over(a, b);
            }
        }
        return hands;
    }

    public static void main(String[] args) {
        strokeCalls();
        one();
        cellCalls();
        placeCalls();
        sights();
        runCalls();
        whatIf();
        scraped();
        spans();
        counts();
        end("asked");
    }
}
