/** ROWS: nothing, no numbers, twelve; numbers at their ends, cut; paste() both ways; mending() and judge() by them. */
public final class RowTests extends Checks {
    /** Each of the LETTERS a to j fits each of eight PLACES, so judge() counts numbers from 0 to 9. */
    private static final String ALL_FIT = "stroke 0 0 0 3;stroke 0 1 0 3;stroke 0 2 0 3;letter a 511 1;letter b 511 1;"
            + "letter c 511 1;letter d 511 1;letter e 511 1;letter f 511 1;letter g 511 1;letter h 511 1;letter i 511 1;"
            + "letter j 511 1;" + "place 0 0;".repeat(8);
    /** Of PLACE i just LETTER i is SURE, so judge() tells the row 0, 1, 2 .. from others. */
    private static final String ONE_EACH = oneEach();

    private static String oneEach() {
        StringBuilder text = new StringBuilder("page 24 3;");
        for (int i = 0; i < 8; i++) {
            text.append("letter ").append((char) ('a' + i)).append(' ').append(i == 7 ? 3 : 1 << i).append(" 1;");
        }
        for (int i = 0; i < 8; i++) {
            int x = 3 * i + (i == 7 ? 0 : i % 3);
            text.append("stroke ").append(x).append(' ').append(i == 7 ? 0 : i / 3).append(" 0 ").append(i == 7 ? 2 : 1)
                    .append(";hand ").append(i).append(" 0;place ").append(3 * i).append(" 0;");
        }
        return text.toString();
    }

    private static void fill(TwoHands hands, int row, int sort, int... numbers) {
        due("row", hands.row(row, sort, numbers.length), 0);
        for (int i = 0; i < numbers.length; i++) {
            due("write", hands.write(row, i, numbers[i]), numbers[i]);
        }
    }

    private static void busy(TwoHands hands) {
        tellText(hands, LEAF);
        hands.row(0, 0, 3);
        hands.write(0, 0, 1);
        hands.write(0, 1, 3);
        hands.row(1, 1, 4);
        hands.write(1, 0, 1);
        hands.write(1, 1, 3);
        hands.row(2, 0, 0);
    }

    private static void rowCalls() {
        sentence("37: -2, the ROW, ahead of -3; nothing changes");
        for (int row : new int[] {-1, 4, 5, MIN, MAX}) {
            refusedCall("row(" + row + ", 0, 1)", RowTests::busy, hands -> hands.row(row, 0, 1), -2);
            refusedCall("row(" + row + ", 2, 13)", RowTests::busy, hands -> hands.row(row, 2, 13), -2);
        }
        sentence("37: -3, the sort; nothing changes");
        for (int sort : new int[] {-1, 2, MIN, MAX}) {
            refusedCall("row(0, " + sort + ", 1)", RowTests::busy, hands -> hands.row(0, sort, 1), -3);
            refusedCall("row(3, " + sort + ", 1)", RowTests::busy, hands -> hands.row(3, sort, 1), -3);
        }
        sentence("37: -3, n; nothing changes");
        for (int n : new int[] {-1, 13, MIN, MAX}) {
            refusedCall("row(0, 0, " + n + ")", RowTests::busy, hands -> hands.row(0, 0, n), -3);
            refusedCall("row(3, 1, " + n + ")", RowTests::busy, hands -> hands.row(3, 1, n), -3);
        }
        sentence("37: ROWS 0 to 3, of each sort, with 0 to 12 numbers");
        for (int sort = 0; sort <= 1; sort++) {
            for (int n = 0; n <= 12; n++) {
                TwoHands hands = new TwoHands();
                for (int row = 0; row <= 3; row++) {
                    due("row(" + row + ", " + sort + ", " + n + ")", hands.row(row, sort, n), 0);
                    due("count(12)", hands.count(12), row + 1);
                    due("the last number", hands.write(row, n - 1, 5), n == 0 ? -7 : 5);
                    due("one beyond", hands.write(row, n, 5), -7);
                }
            }
        }
        sentence("37: all 0, in place of another one");
        TwoHands hands = told(ALL_FIT);
        fill(hands, 0, 0, 10, 10, 10);
        due("judge(0)", hands.judge(0), 0);
        due("row(0, 0, 3)", hands.row(0, 0, 3), 0);
        due("judge(0)", hands.judge(0), 3);
        fill(hands, 0, 1, 10, 10, 10, 10, 10);
        due("row(0, 0, 5)", hands.row(0, 0, 5), 0);
        due("judge(0)", hands.judge(0), 5);
        due("row(0, 0, 2)", hands.row(0, 0, 2), 0);
        due("write(0, 2, 1)", hands.write(0, 2, 1), -7);
        due("row(0, 0, 6)", hands.row(0, 0, 6), 0);
        due("judge(0)", hands.judge(0), 6);
        due("count(12)", hands.count(12), 1);
    }

    private static void writes() {
        sentence("38: -2, the ROW; nothing changes");
        for (int row : new int[] {-1, 4, MIN, MAX}) {
            refusedCall("write(" + row + ", 0, 1)", RowTests::busy, hands -> hands.write(row, 0, 1), -2);
            refusedCall("write(" + row + ", -1, 1)", RowTests::busy, hands -> hands.write(row, -1, 1), -2);
        }
        sentence("38: -6, ahead of -7; nothing changes");
        refusedCall("write(3, 0, 1)", RowTests::busy, hands -> hands.write(3, 0, 1), -6);
        refusedCall("write(3, -1, 1)", RowTests::busy, hands -> hands.write(3, -1, 1), -6);
        refusedCall("write(3, 12, 1)", RowTests::busy, hands -> hands.write(3, 12, 1), -6);
        sentence("38: -7, it has no such number; nothing changes");
        for (int place : new int[] {-1, 3, 4, 12, MIN, MAX}) {
            refusedCall("write(0, " + place + ", 1)", RowTests::busy, hands -> hands.write(0, place, 1), -7);
        }
        refusedCall("write(2, 0, 1), no numbers", RowTests::busy, hands -> hands.write(2, 0, 1), -7);
        sentence("38: 16 bits, cut to its sort");
        TwoHands hands = told(ALL_FIT);
        hands.row(0, 0, 12);
        int[][] cut = {{0, 0}, {1, 1}, {-1, -1}, {32767, 32767}, {32768, -32768}, {-32768, -32768}, {-32769, 32767},
            {65535, -1}, {65536, 0}, {65537, 1}, {-65536, 0}, {-65535, 1}, {98303, 32767}, {98304, -32768}, {MAX, -1},
            {MIN, 0}, {MIN + 1, 1}, {MAX - 1, -2}, {MIN + 32768, -32768}, {70000, 4464}};
        for (int[] one : cut) {
            due("write(0, 11, " + one[0] + ")", hands.write(0, 11, one[0]), one[1]);
            due("write(0, 0, " + one[0] + ")", hands.write(0, 0, one[0]), one[1]);
        }
        sentence("38: 32 bits, nothing to cut");
        hands.row(1, 1, 12);
        for (int[] one : cut) {
            due("write(1, 0, " + one[0] + ")", hands.write(1, 0, one[0]), one[0]);
            due("write(1, 11, " + one[0] + ")", hands.write(1, 11, one[0]), one[0]);
        }
        sentence("38: it is there as it was cut");
        hands.write(0, 0, 65536);
        hands.write(1, 0, 65536);
        due("judge(0): 0 is a LETTER", hands.judge(0), 8);
        due("judge(1): 65536 is none", hands.judge(1), 0);
        hands.write(0, 0, 65535);
        due("judge(0): -1 is none", hands.judge(0), 0);
    }

    private static void pasteRefused() {
        sentence("39: -2, a ROW, ahead of all others; nothing changes");
        for (int row : new int[] {-1, 4, MIN, MAX}) {
            refusedCall("paste(" + row + ", ..)", RowTests::busy, hands -> hands.paste(row, 0, 0, 0, 1), -2);
            refusedCall("paste to " + row, RowTests::busy, hands -> hands.paste(0, 0, row, 0, 1), -2);
            refusedCall("paste from nothing to " + row, RowTests::busy, hands -> hands.paste(3, 0, row, -1, -1), -2);
            refusedCall("paste from " + row + " to nothing", RowTests::busy, hands -> hands.paste(row, -1, 3, 0, 99), -2);
        }
        sentence("39: -6, one has nothing, ahead of -8 and -7; nothing changes");
        refusedCall("paste(3, 0, 0, 0, 1)", RowTests::busy, hands -> hands.paste(3, 0, 0, 0, 1), -6);
        refusedCall("paste(0, 0, 3, 0, 1)", RowTests::busy, hands -> hands.paste(0, 0, 3, 0, 1), -6);
        refusedCall("paste(3, 0, 3, 0, 0)", RowTests::busy, hands -> hands.paste(3, 0, 3, 0, 0), -6);
        refusedCall("paste(1, -1, 3, 99, -1)", RowTests::busy, hands -> hands.paste(1, -1, 3, 99, -1), -6);
        sentence("39: -8, ahead of -7; nothing changes");
        refusedCall("paste(0, 0, 1, 0, 1)", RowTests::busy, hands -> hands.paste(0, 0, 1, 0, 1), -8);
        refusedCall("paste(1, 0, 0, 0, 1)", RowTests::busy, hands -> hands.paste(1, 0, 0, 0, 1), -8);
        refusedCall("paste(0, 0, 1, 0, 0)", RowTests::busy, hands -> hands.paste(0, 0, 1, 0, 0), -8);
        refusedCall("paste(0, -1, 1, 99, -1)", RowTests::busy, hands -> hands.paste(0, -1, 1, 99, -1), -8);
        refusedCall("paste(2, 0, 1, 0, 0), no numbers", RowTests::busy, hands -> hands.paste(2, 0, 1, 0, 0), -8);
    }

    private static void pasteBeyond() {
        sentence("39: -7, a place or n is below 0; nothing changes");
        for (int low : new int[] {-1, -2, -12, MIN, MIN + 1, MIN + 3}) {
            refusedCall("paste(0, " + low + ", 0, 0, 1)", RowTests::busy, hands -> hands.paste(0, low, 0, 0, 1), -7);
            refusedCall("paste(0, 0, 0, " + low + ", 1)", RowTests::busy, hands -> hands.paste(0, 0, 0, low, 1), -7);
            refusedCall("paste(0, 0, 0, 0, " + low + ")", RowTests::busy, hands -> hands.paste(0, 0, 0, 0, low), -7);
            refusedCall("paste(0, " + low + ", 0, 0, 0)", RowTests::busy, hands -> hands.paste(0, low, 0, 0, 0), -7);
            refusedCall("paste(0, 0, 0, " + low + ", 0)", RowTests::busy, hands -> hands.paste(0, 0, 0, low, 0), -7);
            refusedCall("paste(2, 0, 2, 0, " + low + ")", RowTests::busy, hands -> hands.paste(2, 0, 2, 0, low), -7);
        }
        sentence("39: -7, some are beyond their ROWS; nothing changes");
        int[][] beyond = {{3, 0, 1}, {0, 3, 1}, {0, 0, 4}, {1, 0, 3}, {0, 1, 3}, {2, 2, 2}, {2, 0, 2}, {0, 2, 2}, {12, 0, 1},
            {0, 12, 1}, {MAX, 0, 1}, {0, MAX, 1}, {0, 0, MAX}, {MAX, MAX, MAX}, {1, 1, MAX}, {MAX, 0, MAX}, {3, 3, 1},
            {MAX, 1, 2}, {1, MAX, 2}, {MAX - 1, 0, 3}};
        for (int[] one : beyond) {
            String call = "paste(0, " + one[0] + ", 0, " + one[1] + ", " + one[2] + ")";
            refusedCall(call, RowTests::busy, hands -> hands.paste(0, one[0], 0, one[1], one[2]), -7);
        }
        sentence("39: -7, of ROWS of two sizes, each by its own");
        TwoHands hands = told(ALL_FIT);
        fill(hands, 0, 1, 1, 2, 3, 4, 5);
        fill(hands, 1, 1, 9, 9);
        due("three into two", hands.paste(0, 0, 1, 0, 3), -7);
        due("three of two", hands.paste(1, 0, 0, 0, 3), -7);
        due("two into two", hands.paste(0, 3, 1, 0, 2), 0);
        due("two, one beyond", hands.paste(0, 4, 1, 0, 2), -7);
        due("two of two", hands.paste(1, 0, 0, 3, 2), 0);
        due("two, one beyond", hands.paste(1, 0, 0, 4, 2), -7);
        sentence("39: where n is 0, a place above how many it has");
        due("both at the end", hands.paste(0, 5, 1, 2, 0), 0);
        due("both at 0", hands.paste(0, 0, 1, 0, 0), 0);
        due("from one above", hands.paste(0, 6, 1, 2, 0), -7);
        due("to one above", hands.paste(0, 5, 1, 3, 0), -7);
        due("from far above", hands.paste(0, MAX, 1, 0, 0), -7);
        due("to far above", hands.paste(0, 0, 1, MAX, 0), -7);
        sentence("39: ROWS of no numbers");
        hands.row(2, 1, 0);
        due("none of none", hands.paste(2, 0, 2, 0, 0), 0);
        due("none of none to the end", hands.paste(2, 0, 0, 5, 0), 0);
        due("none from above none", hands.paste(2, 1, 0, 0, 0), -7);
        due("none to above none", hands.paste(0, 0, 2, 1, 0), -7);
        due("one of none", hands.paste(2, 0, 0, 0, 1), -7);
        due("one to none", hands.paste(0, 0, 2, 0, 1), -7);
    }

    /** A ROW's numbers, each put to the place of 0 to 7 where it is due: judge() counts all eight, if it is as due. */
    private static void dueNumbers(String call, TwoHands hands, int row, int... numbers) {
        for (int i = 0; i < numbers.length; i++) {
            due("row", hands.row(3, 1, 8), 0);
            for (int k = 0; k < 8; k++) {
                hands.write(3, k, k);
            }
            due("paste", hands.paste(row, i, 3, numbers[i], 1), 0);
            due(call + ": number " + i, hands.judge(3), 8);
        }
    }

    private static TwoHands withCounts() {
        TwoHands hands = told(ONE_EACH);
        fill(hands, 0, 1, 0, 1, 2, 3, 4, 5, 6, 7);
        due("judge(0)", hands.judge(0), 8);
        return hands;
    }

    private static void pasteTaken() {
        sentence("39: to a place of another ROW, as they were");
        TwoHands hands = withCounts();
        fill(hands, 1, 1, 7, 7, 7, 7);
        due("paste(0, 2, 1, 1, 3)", hands.paste(0, 2, 1, 1, 3), 0);
        dueNumbers("to another one", hands, 1, 7, 2, 3, 4);
        dueNumbers("its own stays", hands, 0, 0, 1, 2, 3, 4, 5, 6, 7);
        sentence("39: within one ROW, to the right, as they were");
        hands = withCounts();
        due("paste(0, 0, 0, 1, 7)", hands.paste(0, 0, 0, 1, 7), 0);
        dueNumbers("to the right", hands, 0, 0, 0, 1, 2, 3, 4, 5, 6);
        due("paste(0, 2, 0, 5, 3)", hands.paste(0, 2, 0, 5, 3), 0);
        dueNumbers("not overlapping", hands, 0, 0, 0, 1, 2, 3, 1, 2, 3);
        sentence("39: within one ROW, to the left, as they were");
        hands = withCounts();
        due("paste(0, 1, 0, 0, 7)", hands.paste(0, 1, 0, 0, 7), 0);
        dueNumbers("to the left", hands, 0, 1, 2, 3, 4, 5, 6, 7, 7);
        due("paste(0, 5, 0, 2, 3)", hands.paste(0, 5, 0, 2, 3), 0);
        dueNumbers("not overlapping", hands, 0, 1, 2, 6, 7, 7, 6, 7, 7);
        sentence("39: within one ROW, onto itself, and none");
        hands = withCounts();
        due("paste(0, 0, 0, 0, 8)", hands.paste(0, 0, 0, 0, 8), 0);
        due("paste(0, 3, 0, 3, 2)", hands.paste(0, 3, 0, 3, 2), 0);
        due("paste(0, 1, 0, 6, 0)", hands.paste(0, 1, 0, 6, 0), 0);
        due("paste(0, 8, 0, 0, 0)", hands.paste(0, 8, 0, 0, 0), 0);
        due("judge(0)", hands.judge(0), 8);
        sentence("39: numbers of 16 bits and of 32 at their ends, all twelve");
        hands = told(ALL_FIT);
        hands.row(0, 0, 12);
        hands.row(1, 0, 12);
        hands.write(0, 11, 32768);
        due("paste(0, 0, 1, 0, 12)", hands.paste(0, 0, 1, 0, 12), 0);
        due("paste(0, 11, 1, 0, 1)", hands.paste(0, 11, 1, 0, 1), 0);
        due("the first is no LETTER now", hands.judge(1), 0);
    }

    private static void mendings() {
        sentence("40: -2, the ROW, what, ahead of -6; nothing changes");
        for (int other : new int[] {-1, 4, MIN, MAX}) {
            refusedCall("mending(" + other + ", 0)", RowTests::busy, hands -> hands.mending(other, 0), -2);
            refusedCall("mending(0, " + other + ")", RowTests::busy, hands -> hands.mending(0, other), -2);
            refusedCall("mending(3, " + other + ")", RowTests::busy, hands -> hands.mending(3, other), -2);
        }
        refusedCall("mending(0, 2)", RowTests::busy, hands -> hands.mending(0, 2), -2);
        sentence("40: -6; nothing changes");
        refusedCall("mending(3, 0)", RowTests::busy, hands -> hands.mending(3, 0), -6);
        refusedCall("mending(3, 1)", RowTests::busy, hands -> hands.mending(3, 1), -6);
        sentence("40: a ROW of no numbers, of one: what is left over counts nothing");
        TwoHands hands = told(GRID);
        hands.row(0, 0, 0);
        due("mending(0, 0)", hands.mending(0, 0), 720);
        due("mending(0, 1)", hands.mending(0, 1), 0);
        hands.row(0, 0, 1);
        hands.write(0, 0, 77);
        due("mending(0, 0)", hands.mending(0, 0), 720);
        due("mending(0, 1)", hands.mending(0, 1), 0);
        fill(hands, 0, 0, 0, 3, 5);
        due("mending(0, 0)", hands.mending(0, 0), 360);
        due("mending(0, 1)", hands.mending(0, 1), 0);
        sentence("40: twelve numbers, six twos, all of which are taken");
        fill(hands, 0, 1, 0, 3, 3, 1, 1, 4, 4, 2, 2, 5, 0, 5);
        due("mending(0, 0)", hands.mending(0, 0), 1);
        due("mending(0, 1)", hands.mending(0, 1), 0);
        sentence("40: twelve numbers, six twos, all of which are left out");
        fill(hands, 0, 1, 0, 0, 0, 1, -1, 3, 3, 6, MIN, MAX, 32, 0);
        due("mending(0, 0)", hands.mending(0, 0), 720);
        due("mending(0, 1)", hands.mending(0, 1), 63);
        sentence("40: those that over() would refuse, by what is taken of the ROW ahead of them");
        fill(hands, 0, 1, 0, 3, 0, 3, 3, 0, 3, 1, 1, 3, 1, 0);
        due("told already, RINGS, no CELL in common", hands.mending(0, 1), 0b110110);
        due("mending(0, 0)", hands.mending(0, 0), 120);
        hands.hand(4, 0);
        hands.hand(2, 1);
        fill(hands, 0, 1, 4, 2, 2, 4, 0, 4);
        due("no WAY would be left", hands.mending(0, 1), 0b001);
        sentence("40: nothing of it is told");
        due("count(5)", hands.count(5), 0);
        due("count(6)", hands.count(6), 2);
        due("orders()", hands.orders(), 720);
        due("ring(0)", hands.ring(0), -1);
        due("asking(2)", hands.asking(2), 360);
        due("ways()", hands.ways(), 16);
        sentence("40: without STROKES");
        hands = new TwoHands();
        hands.row(0, 0, 12);
        due("mending(0, 0)", hands.mending(0, 0), 1);
        due("mending(0, 1)", hands.mending(0, 1), 63);
    }

    private static void judges() {
        sentence("41: -2, the ROW; nothing changes");
        for (int row : new int[] {-1, 4, MIN, MAX}) {
            refusedCall("judge(" + row + ")", RowTests::busy, hands -> hands.judge(row), -2);
        }
        sentence("41: -6; nothing changes");
        refusedCall("judge(3)", RowTests::busy, hands -> hands.judge(3), -6);
        sentence("41: a ROW of no numbers");
        TwoHands hands = told(ALL_FIT);
        hands.row(0, 0, 0);
        due("judge(0)", hands.judge(0), 0);
        sentence("41: up to the first that isn't");
        for (int size = 0; size < 8; size++) {
            hands.row(0, 1, 8);
            hands.write(0, size, 10);
            hands.write(0, 7, 10);
            due("judge(0)", hands.judge(0), size);
        }
        for (int other : new int[] {-1, 10, 11, 31, 32, 33, 64, MIN, MAX}) {
            hands.row(0, 1, 3);
            hands.write(0, 1, other);
            due("judge(0) with " + other, hands.judge(0), 1);
        }
        sentence("41: or is beyond the last PLACE");
        hands.row(0, 1, 12);
        due("judge(0)", hands.judge(0), 8);
        hands.row(0, 1, 9);
        due("judge(0)", hands.judge(0), 8);
        hands.row(0, 1, 8);
        due("judge(0)", hands.judge(0), 8);
        hands.row(0, 1, 7);
        due("judge(0)", hands.judge(0), 7);
        sentence("41: without PLACES, without LETTERS");
        hands = told("letter a 511 1;");
        hands.row(0, 1, 12);
        due("judge(0)", hands.judge(0), 0);
        tellText(hands, "place 0 0;");
        due("judge(0)", hands.judge(0), 0);
        sentence("41: one of SURE, not one that FITS");
        hands = told("stroke 0 0 0 3;stroke 0 1 0 3;stroke 0 2 0 3;letter a 511 1;letter b 511 1;place 0 0;place 0 0;"
                + "word ab;run 0 2;");
        fill(hands, 0, 0, 0, 1);
        due("judge(0)", hands.judge(0), 2);
        fill(hands, 0, 0, 0, 0);
        due("judge(0)", hands.judge(0), 1);
        fill(hands, 0, 0, 1, 1);
        due("judge(0)", hands.judge(0), 0);
    }

    private static void counts() {
        sentence("42: 12 ROWS that have something, be it no numbers");
        TwoHands hands = new TwoHands();
        due("count(12)", hands.count(12), 0);
        hands.row(3, 0, 0);
        due("count(12)", hands.count(12), 1);
        hands.row(3, 1, 12);
        due("count(12)", hands.count(12), 1);
        hands.row(3, 1, 0);
        hands.row(0, 1, 0);
        due("count(12)", hands.count(12), 2);
        hands.row(4, 0, 0);
        hands.row(1, 0, 13);
        hands.row(2, 2, 0);
        due("count(12)", hands.count(12), 2);
        sentence("42: NONE for others");
        for (int what : new int[] {-1, -2, 13, 14, 100, MIN, MAX}) {
            due("count(" + what + ")", hands.count(what), -1);
        }
    }

    public static void main(String[] args) {
        rowCalls();
        writes();
        pasteRefused();
        pasteBeyond();
        pasteTaken();
        mendings();
        judges();
        counts();
        end("rows");
    }
}
