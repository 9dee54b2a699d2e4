/** 'Terms': the least and the greatest of each, one below and one above, as many as there may be, one more, none. */
public final class BoundsTests extends Checks {
    private static final String NAMES = "abcdefghijklmnopqrstuvwxyz";

    private static String letters(int many) {
        StringBuilder text = new StringBuilder();
        for (int i = 0; i < many; i++) {
            text.append("letter ").append(NAMES.charAt(i)).append(" 511 1;");
        }
        return text.toString();
    }

    private static void none() {
        sentence("1: no STROKES, no LETTERS");
        TwoHands hands = new TwoHands();
        for (int what = 0; what <= 12; what++) {
            due("count(" + what + ")", hands.count(what), what == 8 || what == 9 ? 3 : 0);
        }
        due("orders()", hands.orders(), 1);
        due("ways()", hands.ways(), 1);
        due("layers()", hands.layers(), 0);
        due("order(0)", hands.order(0), -1);
        due("asking(0)", hands.asking(0), -1);
        due("asking(1)", hands.asking(1), -1);
        due("asking(2)", hands.asking(2), -1);
        due("scrape()", hands.scrape(), -1);
        due("reads(-1)", hands.reads(-1), 0);
        due("reads(0)", hands.reads(0), -1);
        due("ring(0)", hands.ring(0), -1);
        due("undo()", hands.undo(), -5);
        sentence("1: each cell of the first PAGE is there, with no STROKE");
        for (int cell = 0; cell < 9; cell++) {
            due("top", hands.top(cell % 3, cell / 3), -1);
            due("seen", hands.seen(cell % 3, cell / 3), 0);
        }
        sentence("none of a kind, though there are others: none to ask about");
        TwoHands strokes = told("stroke 0 0 0 3;stroke 0 0 1 3;");
        due("reads(-1)", strokes.reads(-1), 0);
        due("scrape()", strokes.scrape(), -1);
        due("loose(0)", strokes.loose(0), 0);
        due("spoilt(0, 0)", strokes.spoilt(0, 0), 1000);
        due("count(10)", strokes.count(10), 0);
        TwoHands places = told("place 0 0;run 0 1;");
        due("fits(0) without LETTERS", places.fits(0), 0);
        due("sure(0) without WORDS", places.sure(0), 0);
        due("guess(0)", places.guess(0), -1);
        due("words(0, -1)", places.words(0, -1), 0);
        due("words(0, 0)", places.words(0, 0), -1);
        due("likely(0)", places.likely(0), -1);
        due("reads(0)", places.reads(0), '?');
        due("shows(0, 0)", places.shows(0, 0), 511);
    }

    private static void page() {
        sentence("PAGE: WIDE 3 to 24");
        for (int wide = 3; wide <= 24; wide++) {
            TwoHands hands = taken("page " + wide + " 5;", 1);
            due("WIDE", hands.count(8), wide);
            due("its last column", hands.top(wide - 1, 4), -1);
            due("one beyond", hands.top(wide, 4), -2);
        }
        refusedAt("page <2 5;", 2);
        refusedAt("page <0 5;", 2);
        refusedAt("page <25 5;", 2);
        refusedAt("page <9999 5;", 2);
        sentence("PAGE: HIGH 3 to 12");
        for (int high = 3; high <= 12; high++) {
            TwoHands hands = taken("page 5 " + high + ";", 1);
            due("HIGH", hands.count(9), high);
            due("its last line", hands.seen(4, high - 1), 0);
            due("one beyond", hands.seen(4, high), -2);
        }
        refusedAt("page 5 <2;", 2);
        refusedAt("page 5 <0;", 2);
        refusedAt("page 5 <13;", 2);
        refusedAt("page 5 <24;", 2);
        sentence("PAGE: 3, 3 at first, and of a text without page");
        TwoHands hands = told("page 24 12;");
        tellText(hands, "stroke 2 2 0 1;");
        due("WIDE", hands.count(8), 3);
        due("HIGH", hands.count(9), 3);
        due("beyond", hands.top(3, 0), -2);
        refusedAt("stroke <3 0 0 1;", 2);
        refusedAt("stroke 0 <3 0 1;", 2);
    }

    private static void cells() {
        sentence("CELLS x, y from 0 on: the four corners of the greatest PAGE and what is beyond");
        TwoHands hands = told("page 24 12;stroke 0 0 0 1;stroke 23 0 0 1;stroke 0 11 0 1;stroke 23 11 0 1;");
        int[][] corners = {{0, 0}, {23, 0}, {0, 11}, {23, 11}};
        for (int i = 0; i < 4; i++) {
            due("top of corner " + i, hands.top(corners[i][0], corners[i][1]), i);
            due("seen of corner " + i, hands.seen(corners[i][0], corners[i][1]), 2);
        }
        int[][] beyond = {{-1, 0}, {0, -1}, {24, 0}, {0, 12}, {-1, -1}, {24, 12}, {MIN, 0}, {0, MIN}, {MAX, 0}, {0, MAX},
            {MAX, MAX}, {MIN, MIN}};
        for (int[] cell : beyond) {
            due("top(" + cell[0] + ", " + cell[1] + ")", hands.top(cell[0], cell[1]), -2);
            due("seen(" + cell[0] + ", " + cell[1] + ")", hands.seen(cell[0], cell[1]), -2);
        }
        sentence("x to the right, y down: the two are not taken one for the other");
        due("top(11, 0)", hands.top(11, 0), -1);
        due("top(0, 11)", hands.top(0, 11), 2);
    }

    private static void strokes() {
        sentence("STROKES: at most 12, numbered from 0 on");
        TwoHands hands = taken("stroke 0 0 0 1;".repeat(11) + "stroke 2 2 0 1;", 12);
        due("count(0)", hands.count(0), 12);
        due("the last one", hands.stroke(11, 0), 2);
        due("one beyond", hands.stroke(12, 0), -2);
        refused("stroke 0 0 0 1;".repeat(12) + "stroke 0 0 0 1;", 4, 180);
        sentence("STROKES: twelve that are free");
        due("orders()", hands.orders(), 479001600L);
        due("ways()", hands.ways(), 4096);
        due("layers()", hands.layers(), 1);
        due("count(11)", hands.count(11), 55);
        due("crosses", hands.stroke(0, 7), 0b011111111110);
        due("crosses none", hands.stroke(11, 7), 0);
        due("ahead(11, 0)", hands.ahead(11, 0), 239500800L);
        due("asking(2)", hands.asking(2), 239500800L);
        due("asking(1)", hands.asking(1), 1);
        for (int what = 0; what < 3; what++) {
            due("span(11, " + what + ")", hands.span(11, what), new int[] {0, 11, 5500}[what]);
        }
        due("paired(0, 11)", hands.paired(0, 11), 1);
    }

    private static void longChain() {
        sentence("STROKES: twelve in one CHAIN");
        StringBuilder text = new StringBuilder("stroke 0 0 0 1;".repeat(12));
        for (int i = 0; i < 11; i++) {
            text.append("over ").append(i).append(' ').append(i + 1).append(';');
        }
        TwoHands hands = taken(text.toString(), 23);
        due("orders()", hands.orders(), 1);
        due("ways()", hands.ways(), 13);
        due("layers()", hands.layers(), 12);
        for (int i = 0; i < 12; i++) {
            due("LAYER", hands.stroke(i, 6), 11 - i);
            due("is OVER", hands.stroke(i, 8), 4095 & -2 << i);
            due("are OVER it", hands.stroke(i, 9), (1 << i) - 1);
            due("order(" + i + ")", hands.order(i), 11 - i);
            due("first place", hands.span(i, 0), 11 - i);
            due("last place", hands.span(i, 1), 11 - i);
            due("MEAN", hands.span(i, 2), 1000 * (11 - i));
        }
        due("order(12)", hands.order(12), -1);
        due("asking(0)", hands.asking(0), -1);
        due("top(0, 0)", hands.top(0, 0), 0);
        due("over(11, 0)", hands.over(11, 0), -5);
        for (int i = 0; i < 12; i++) {
            due("a RING of all: ring(" + i + ")", hands.ring(i), (11 + i) % 12);
        }
        due("ring(12)", hands.ring(12), -1);
        due("MUST of the lowest", hands.stroke(11, 5), 2);
        due("hand(0, 0)", hands.hand(0, 0), 0);
        due("all MUST be lower", hands.ways(), 1);
        due("MUST of the lowest", hands.stroke(11, 5), 0);
        due("hand(11, 1)", hands.hand(11, 1), -9);
        sentence("STROKES: one CHAIN of twelve taken in two, and made whole");
        due("takes(5, 6)", hands.takes(5, 6), 10);
        due("orders(): two CHAINS of six", hands.orders(), 924);
        due("is OVER", hands.stroke(0, 8), 0b000000111110);
        due("are OVER it", hands.stroke(11, 9), 0b011111000000);
        due("layers()", hands.layers(), 6);
        due("ways(): 0 to 5 are lower", hands.ways(), 7);
        due("undo()", hands.undo(), 1);
        due("orders()", hands.orders(), 1);
        due("layers()", hands.layers(), 12);
        due("takes(10, 11)", hands.takes(10, 11), 10);
        due("orders()", hands.orders(), 12);
        due("over(11, 0)", hands.over(11, 0), 11);
        due("undo()", hands.undo(), 2);
        due("orders()", hands.orders(), 12);
    }

    private static void directions() {
        sentence("DIRECTION 0 to 3");
        TwoHands hands = taken("page 9 9;stroke 4 4 0 5;stroke 4 4 1 5;stroke 4 4 2 5;stroke 4 4 3 5;", 5);
        int[][] ends = {{8, 4}, {4, 8}, {8, 8}, {0, 8}};
        for (int i = 0; i < 4; i++) {
            due("DIRECTION", hands.stroke(i, 2), i);
            due("the end of " + i, hands.top(ends[i][0], ends[i][1]), i);
        }
        due("no TOP where all begin", hands.top(4, 4), -1);
        refusedAt("page 9 9;stroke 4 4 <4 1;", 2);
        refusedAt("page 9 9;stroke 4 4 <9 1;", 2);
        sentence("LONG 1 to 9");
        for (int direction = 0; direction < 4; direction++) {
            for (int size = 1; size <= 9; size++) {
                String text = "page 24 12;stroke 10 0 " + direction + " " + size + ";";
                due("LONG", taken(text, 2).stroke(0, 3), size);
            }
            refusedAt("page 24 12;stroke 10 0 " + direction + " <0;", 2);
            refusedAt("page 24 12;stroke 10 0 " + direction + " <10;", 2);
        }
    }

    /** The greatest LONG that stays on the PAGE, and one more. */
    private static void reaches(String page, String from, int most) {
        due("LONG " + most + " " + from, taken(page + "stroke " + from + " " + most + ";", 2).stroke(0, 3), most);
        refusedAt(page + "stroke " + from + " <" + (most + 1) + ";", 2);
    }

    private static void onThePage() {
        sentence("STROKES: all CELLS on the PAGE (2, at LONG)");
        String page = "page 7 5;";
        reaches(page, "0 0 0", 7);
        reaches(page, "6 0 0", 1);
        reaches(page, "0 4 0", 7);
        reaches(page, "0 0 1", 5);
        reaches(page, "6 4 1", 1);
        reaches(page, "0 0 2", 5);
        reaches(page, "4 0 2", 3);
        reaches(page, "4 3 2", 2);
        reaches(page, "6 0 2", 1);
        reaches(page, "0 4 2", 1);
        reaches(page, "6 0 3", 5);
        reaches(page, "2 0 3", 3);
        reaches(page, "0 0 3", 1);
        reaches(page, "6 4 3", 1);
        reaches(page, "5 3 3", 2);
        sentence("STROKES: x, y of a CELL on the PAGE (2, at x, at y)");
        taken(page + "stroke 6 4 0 1;", 2);
        refusedAt(page + "stroke <7 4 0 1;", 2);
        refusedAt(page + "stroke 6 <5 0 1;", 2);
        refusedAt(page + "stroke 4 <6 0 1;", 2);
    }

    private static void crosses() {
        sentence("Two STROKES CROSS, if they have a CELL in common");
        TwoHands hands = told("page 4 4;stroke 0 0 2 2;stroke 1 0 3 2;stroke 0 2 0 3;stroke 2 2 1 2;stroke 3 3 0 1;");
        due("two that pass between each other's CELLS", hands.crossing(0, 1), -1);
        due("the same, other way round", hands.crossing(1, 0), -1);
        due("over of those", hands.over(0, 1), -5);
        due("by their ends", hands.crossing(2, 3), 202);
        due("beside each other", hands.crossing(3, 4), -1);
        due("count(11)", hands.count(11), 1);
        due("STROKES that 2 CROSSES", hands.stroke(2, 7), 0b01000);
        hands = told("stroke 0 0 0 2;stroke 2 0 1 3;stroke 0 1 1 1;stroke 1 2 3 1;stroke 0 2 2 1;");
        due("one CELL short of it", hands.crossing(0, 1), -1);
        due("one CELL short of it", hands.crossing(1, 0), -1);
        due("beneath the first CELL", hands.crossing(2, 0), -1);
        due("ahead of the first CELL", hands.crossing(3, 4), -1);
        due("count(11)", hands.count(11), 0);
        sentence("the first CELL along the first one");
        hands = told("page 9 9;stroke 0 0 0 6;stroke 4 0 0 5;stroke 4 0 0 1;stroke 8 0 3 9;stroke 0 8 0 9;stroke 0 0 2 9;");
        due("along 0", hands.crossing(0, 1), 4);
        due("along 1", hands.crossing(1, 0), 4);
        due("one CELL", hands.crossing(2, 1), 4);
        due("the last CELL of a STROKE", hands.crossing(3, 4), 800);
        due("the last CELL of both", hands.crossing(4, 5), 808);
        due("in the midst", hands.crossing(3, 5), 404);
        due("the greatest CELL", told("page 24 12;stroke 23 11 0 1;stroke 23 11 1 1;").crossing(0, 1), 1123);
        hands = told("page 9 3;stroke 0 0 0 5;stroke 2 0 0 5;");
        due("lying on each other, along 0", hands.crossing(0, 1), 2);
        due("lying on each other, along 1", hands.crossing(1, 0), 2);
    }

    private static void letterBounds() {
        sentence("LETTERS: at most 10, numbered from 0 on");
        TwoHands hands = taken(letters(10), 10);
        due("count(1)", hands.count(1), 10);
        due("the last one", hands.letter(9, 0), 10);
        due("one beyond", hands.letter(10, 0), -2);
        refused(letters(11), 4, letters(10).length());
        sentence("a NAME is one small letter");
        for (int i = 0; i < 26; i++) {
            due("NAME", taken("letter " + NAMES.charAt(i) + " 1 1;", 1).letter(0, 0), i + 1);
        }
        refusedAt("letter <` 1 1;", 1);
        refusedAt("letter <{ 1 1;", 1);
        refusedAt("letter <A 1 1;", 1);
        refusedAt("letter <Z 1 1;", 1);
        refusedAt("letter <aa 1 1;", 1);
        refusedAt("letter <1 1;", 1);
        sentence("FORM 1 to 511");
        due("FORM", taken("letter a 1 1;", 1).letter(0, 1), 1);
        due("FORM", taken("letter a 511 1;", 1).letter(0, 1), 511);
        due("FORM", taken("letter a 0511 1;", 1).letter(0, 1), 511);
        refusedAt("letter a <0 1;", 2);
        refusedAt("letter a <512 1;", 2);
        sentence("WEIGHT 1 to 99");
        due("WEIGHT", taken("letter a 1 1;", 1).letter(0, 2), 1);
        due("WEIGHT", taken("letter a 1 99;", 1).letter(0, 2), 99);
        refusedAt("letter a 1 <0;", 2);
        refusedAt("letter a 1 <100;", 2);
        sentence("FORM: bit 3 r and c for the CELL c to the right and r down");
        for (int bit = 0; bit < 9; bit++) {
            int x = 4 + bit % 3;
            int y = 2 + bit / 3;
            hands = told("page 9 7;stroke " + x + " " + y + " 0 1;hand 0 0;place 4 2;letter a " + (1 << bit) + " 1;");
            due("shows bit " + bit, hands.shows(0, 1), 1 << bit);
            due("shows all others empty", hands.shows(0, 0), 511 - (1 << bit));
            due("fits", hands.fits(0), 1);
        }
    }

    private static void placeBounds() {
        sentence("PLACES: at most 8, numbered from 0 on");
        TwoHands hands = taken("place 0 0;".repeat(8), 8);
        due("count(2)", hands.count(2), 8);
        due("the last one", hands.fits(7), 0);
        due("one beyond", hands.fits(8), -2);
        due("reads(-1)", hands.reads(-1), 8);
        due("reads(7)", hands.reads(7), '?');
        due("reads(8)", hands.reads(8), -1);
        refused("place 0 0;".repeat(9), 4, 80);
        sentence("PLACES: with the CELLS 2 to the right, 2 down on the PAGE (2, at x, at y)");
        taken("place 0 0;", 1);
        refusedAt("place <1 0;", 2);
        refusedAt("place 0 <1;", 2);
        taken("page 24 12;place 21 9;", 2);
        refusedAt("page 24 12;place <22 9;", 2);
        refusedAt("page 24 12;place 21 <10;", 2);
        refusedAt("page 24 12;place <23 11;", 2);
        hands = taken("page 24 12;stroke 23 11 0 1;hand 0 0;place 21 9;", 4);
        due("the CELL 2 to the right, 2 down", hands.shows(0, 1), 256);
        sentence("PLACES may be one and the same CELL");
        hands = told("stroke 0 0 0 3;place 0 0;place 0 0;");
        due("count(10): PLACE by PLACE", hands.count(10), 6);
        due("loose: PLACE by PLACE", hands.loose(0), 6);
    }

    private static void wordBounds() {
        sentence("WORDS: at most 12, numbered from 0 on");
        String start = "letter a 511 1;stroke 0 0 0 3;stroke 0 1 0 3;stroke 0 2 0 3;place 0 0;run 0 1;";
        TwoHands hands = taken(start + "word a;".repeat(12), 18);
        due("count(3)", hands.count(3), 12);
        due("words(0, -1)", hands.words(0, -1), 12);
        due("words(0, 11)", hands.words(0, 11), 11);
        due("words(0, 12)", hands.words(0, 12), -1);
        due("likelihood(0, 11)", hands.likelihood(0, 11), Float.floatToIntBits(1f));
        due("likelihood(0, 12)", hands.likelihood(0, 12), -2);
        refused(start + "word a;".repeat(13), 4, start.length() + 84);
        sentence("WORDS: 1 to 6 small letters");
        for (int size = 1; size <= 6; size++) {
            String text = "letter a 511 1;stroke 0 0 0 3;stroke 0 1 0 3;stroke 0 2 0 3;" + "place 0 0;".repeat(6)
                    + "run 0 " + size + ";word " + "a".repeat(size) + ";";
            due("a WORD of " + size, taken(text, 12).words(0, -1), 1);
        }
        refusedAt("letter a 1 1;word <;", 1);
        refusedAt("letter a 1 1;word <aaaaaaa;", 1);
        refusedAt("letter a 1 1;word <" + "a".repeat(30) + ";", 1);
        sentence("WORDS: each letter the NAME of a LETTER told ahead");
        taken("letter a 1 1;word a;letter b 1 1;word ab;", 4);
        refusedAt("word <a;letter a 1 1;", 3);
        refusedAt("letter a 1 1;word <ab;letter b 1 1;", 3);
        refusedAt("letter b 1 1;word <ab;", 3);
        refusedAt("letter b 1 1;word <bbbbba;", 3);
    }

    private static void runBounds() {
        sentence("RUNS: at most 4, numbered from 0 on");
        String places = "place 0 0;".repeat(8);
        TwoHands hands = taken(places + "run 0 1;run 7 1;run 2 1;run 3 2;", 12);
        due("count(4)", hands.count(4), 4);
        due("the last one", hands.words(3, -1), 0);
        due("one beyond", hands.words(4, -1), -2);
        refused(places + "run 0 1;run 7 1;run 2 1;run 3 2;run 5 1;", 4, 112);
        sentence("RUNS: 1 to 6 PLACES");
        taken(places + "run 0 1;", 9);
        taken(places + "run 0 6;", 9);
        taken(places + "run 2 6;", 9);
        refusedAt(places + "run 0 <0;", 2);
        refusedAt(places + "run 0 <7;", 2);
        sentence("RUNS: PLACES that are told ahead");
        taken("place 0 0;run 0 1;", 2);
        taken(places + "run 7 1;", 9);
        refusedAt("run <0 1;place 0 0;", 2);
        refusedAt(places + "run <8 1;", 2);
        refusedAt(places + "run 7 <2;", 2);
        refusedAt(places + "run 3 <6;", 2);
        refusedAt("place 0 0;run 0 <2;place 0 0;", 2);
        sentence("RUNS: no PLACE of another RUN (3, at how many)");
        taken(places + "run 2 2;run 0 2;run 4 4;", 11);
        refusedAt(places + "run 2 2;run 0 <3;", 3);
        refusedAt(places + "run 2 2;run 3 <1;", 3);
        refusedAt(places + "run 2 2;run 2 <2;", 3);
        refusedAt(places + "run 2 2;run 1 <4;", 3);
        refusedAt(places + "run 0 1;run 3 1;run 5 2;run 1 <6;", 3);
    }

    private static void fullLeaf() {
        sentence("as many of each kind as there may be, all at once");
        String text = "page 24 12;" + "stroke 0 0 0 9;".repeat(12) + letters(10) + "place 0 0;".repeat(8)
                + "word abcdef;".repeat(12) + "run 0 2;run 2 2;run 4 2;run 6 2;";
        TwoHands hands = taken(text, 47);
        int[] want = {12, 10, 8, 12, 4, 0, 0, 0, 24, 12, 24, 66, 0};
        for (int what = 0; what < want.length; what++) {
            due("count(" + what + ")", hands.count(what), want[what]);
        }
        sentence("THE TEXT is in place of all that was told ahead: a text of no byte leaves none");
        due("tell(0)", hands.tell(0), 0);
        for (int what = 0; what <= 12; what++) {
            due("count(" + what + ")", hands.count(what), what == 8 || what == 9 ? 3 : 0);
        }
        due("orders()", hands.orders(), 1);
        due("ways()", hands.ways(), 1);
        due("stroke(0, 0)", hands.stroke(0, 0), -2);
        due("letter(0, 0)", hands.letter(0, 0), -2);
        due("fits(0)", hands.fits(0), -2);
        due("words(0, -1)", hands.words(0, -1), -2);
        sentence("THE TEXT is in place of all that was told ahead: HANDS, OVER and RUNS of the old one are gone");
        hands = told("stroke 0 0 0 3;stroke 0 0 1 3;over 0 1;hand 0 0;place 0 0;letter a 511 1;run 0 1;");
        due("a second text", tellText(hands, "stroke 0 0 0 3;stroke 0 0 1 3;place 0 0;letter b 9 2;"), 4);
        due("HAND", hands.stroke(0, 4), 0);
        due("OVER", hands.stroke(0, 8), 0);
        due("are OVER it", hands.stroke(1, 9), 0);
        due("orders()", hands.orders(), 2);
        due("count(5)", hands.count(5), 0);
        due("NAME", hands.letter(0, 0), 2);
        due("sure(0) without RUN", hands.sure(0), hands.fits(0));
        due("run 0", hands.words(0, -1), -2);
    }

    public static void main(String[] args) {
        none();
        page();
        cells();
        strokes();
        longChain();
        directions();
        onThePage();
        crosses();
        letterBounds();
        placeBounds();
        wordBounds();
        runBounds();
        fullLeaf();
        end("bounds");
    }
}
