/** OVER, RING, WAYS of HANDS and ACTS: what over(), takes(), hand(), weigh(), undo() take and refuse. */
public final class ByHandTests extends Checks {
    /** Six strokes that all CROSS each other, by one CELL. */
    private static final String HEAP = "stroke 1 1 0 1;".repeat(6);

    private static void dueRing(TwoHands hands, int... want) {
        for (int i = 0; i < want.length; i++) {
            due("ring(" + i + ")", hands.ring(i), want[i]);
        }
        due("ring(" + want.length + ")", hands.ring(want.length), -1);
    }

    private static void busy(TwoHands hands) {
        tellText(hands, LEAF);
        hands.over(2, 0);
        hands.over(3, 2);
        hands.weigh(1, 9);
        hands.hand(3, 1);
        hands.row(0, 0, 3);
        hands.write(0, 1, 2);
    }

    private static void overRefused() {
        int[] none = {-1, 4, 12, 32, MIN, MAX};
        sentence("5: -2, there is none such STROKE, first or second; nothing changes");
        for (int stroke : none) {
            refusedCall("over(" + stroke + ", 0)", ByHandTests::busy, hands -> hands.over(stroke, 0), -2);
            refusedCall("over(0, " + stroke + ")", ByHandTests::busy, hands -> hands.over(0, stroke), -2);
            refusedCall("over twice " + stroke, ByHandTests::busy, hands -> hands.over(stroke, stroke), -2);
        }
        sentence("5: -5, they are one; nothing changes");
        for (int stroke = 0; stroke < 4; stroke++) {
            int one = stroke;
            refusedCall("over one", ByHandTests::busy, hands -> hands.over(one, one), -5);
        }
        sentence("5: -5, they don't CROSS; nothing changes (no RING either)");
        refusedCall("over(0, 3)", ByHandTests::busy, hands -> hands.over(0, 3), -5);
        refusedCall("over(2, 1), as 1 is OVER 2", ByHandTests::busy, hands -> hands.over(2, 1), -5);
        sentence("5: -5, it is told already; nothing changes");
        refusedCall("over(1, 0)", ByHandTests::busy, hands -> hands.over(1, 0), -5);
        refusedCall("over(0, 2)", ByHandTests::busy, hands -> hands.over(0, 2), -5);
        sentence("5: -9, nothing changes");
        refusedCall("over(3, 1)", leaf -> {
            busy(leaf);
            leaf.takes(3, 2);
            leaf.hand(3, 0);
        }, leaf -> leaf.over(3, 1), -9);
    }

    private static void overTaken() {
        sentence("5: how many twos are told");
        TwoHands hands = told(HEAP);
        int twos = 0;
        for (int a = 0; a < 6; a++) {
            for (int b = a + 1; b < 6; b++) {
                twos++;
                due("over(" + a + ", " + b + ")", hands.over(a, b), twos);
                due("again", hands.over(a, b), -5);
                due("the other way round", hands.over(b, a), -5);
            }
        }
        due("count(5)", hands.count(5), 15);
        due("orders()", hands.orders(), 1);
        due("count(6)", hands.count(6), 12);
        sentence("OVER: told so, and through others; a CHAIN may be told besides");
        hands = told(HEAP + "over 0 1;over 1 2;");
        due("is OVER", hands.stroke(0, 8), 0b000110);
        due("over(0, 2)", hands.over(0, 2), 3);
        due("takes(0, 2)", hands.takes(0, 2), 2);
        due("still OVER through 1", hands.stroke(0, 8), 0b000110);
        due("takes(0, 1)", hands.takes(0, 1), 1);
        due("OVER no more", hands.stroke(0, 8), 0);
        sentence("5: a RING goes ahead of -9");
        hands = told(HEAP + "over 0 1;hand 0 1;hand 1 0;");
        due("over(1, 0)", hands.over(1, 0), -5);
        dueRing(hands, 1, 0);
        sentence("5: -9 through CHAINS on both sides");
        hands = told(HEAP + "over 0 1;over 2 3;hand 0 0;hand 3 1;");
        due("over(1, 2)", hands.over(1, 2), -9);
        due("over(0, 3)", hands.over(0, 3), -9);
        due("over(0, 2)", hands.over(0, 2), -9);
        due("over(1, 3)", hands.over(1, 3), -9);
        due("ring(0)", hands.ring(0), -1);
        due("over(2, 1)", hands.over(2, 1), 3);
        due("over(3, 0)", hands.over(3, 0), 4);
        due("ways()", hands.ways(), 4);
    }

    private static void takesCalls() {
        sentence("6: -2, nothing changes");
        for (int stroke : new int[] {-1, 4, 12, 33, MIN, MAX}) {
            refusedCall("takes(" + stroke + ", 0)", ByHandTests::busy, hands -> hands.takes(stroke, 0), -2);
            refusedCall("takes(0, " + stroke + ")", ByHandTests::busy, hands -> hands.takes(0, stroke), -2);
        }
        sentence("6: -5, it isn't told; nothing changes");
        refusedCall("takes(0, 0)", ByHandTests::busy, hands -> hands.takes(0, 0), -5);
        refusedCall("takes(0, 1), told the other way round", ByHandTests::busy, hands -> hands.takes(0, 1), -5);
        refusedCall("takes(1, 2), so by a CHAIN", ByHandTests::busy, hands -> hands.takes(1, 2), -5);
        refusedCall("takes(1, 3), never told", ByHandTests::busy, hands -> hands.takes(1, 3), -5);
        refusedCall("takes twice", leaf -> {
            busy(leaf);
            leaf.takes(1, 0);
        }, hands -> hands.takes(1, 0), -5);
        sentence("6: how many twos are told, down to none");
        TwoHands hands = told(HEAP + "over 0 1;over 1 2;over 2 3;");
        due("takes(1, 2)", hands.takes(1, 2), 2);
        due("takes(0, 1)", hands.takes(0, 1), 1);
        due("takes(2, 3)", hands.takes(2, 3), 0);
        due("takes(2, 3)", hands.takes(2, 3), -5);
        due("orders()", hands.orders(), 720);
        sentence("6: what a RING or a HAND refused can be told then");
        hands = told(HEAP + "over 0 1;over 1 2;hand 2 1;");
        due("over(2, 0)", hands.over(2, 0), -5);
        due("hand(0, 0)", hands.hand(0, 0), -9);
        due("takes(0, 1)", hands.takes(0, 1), 1);
        due("hand(0, 0)", hands.hand(0, 0), 0);
        due("over(2, 0)", hands.over(2, 0), 2);
    }

    private static void hands() {
        sentence("7: -2, the STROKE, ahead of -3; nothing changes");
        for (int stroke : new int[] {-1, 4, 12, 33, MIN, MAX}) {
            refusedCall("hand(" + stroke + ", 0)", ByHandTests::busy, hands -> hands.hand(stroke, 0), -2);
            refusedCall("hand(" + stroke + ", 2)", ByHandTests::busy, hands -> hands.hand(stroke, 2), -2);
        }
        sentence("7: -3, a HAND is 0, 1, NONE; nothing changes");
        for (int hand : new int[] {-2, 2, 3, MIN, MAX}) {
            refusedCall("hand(0, " + hand + ")", ByHandTests::busy, hands -> hands.hand(0, hand), -3);
        }
        sentence("7: -9, nothing changes");
        refusedCall("hand(1, 0), where 1 is OVER one told lower", leaf -> {
            busy(leaf);
            leaf.hand(2, 1);
        }, hands -> hands.hand(1, 0), -9);
        refusedCall("hand(2, 1), where one told lower is OVER 2", leaf -> {
            busy(leaf);
            leaf.hand(0, 0);
        }, hands -> hands.hand(2, 1), -9);
        sentence("7: what it was, told 1 more: from each HAND to each");
        for (int from = -1; from <= 1; from++) {
            for (int to = -1; to <= 1; to++) {
                TwoHands hands = told(HEAP);
                hands.hand(5, from);
                due("hand(5, " + to + ")", hands.hand(5, to), from + 1);
                due("HAND", hands.stroke(5, 4), to + 1);
                due("count(6)", hands.count(6), 2);
                due("undo()", hands.undo(), 1);
                due("HAND", hands.stroke(5, 4), from + 1);
            }
        }
        sentence("7: NONE is never refused by HANDS");
        TwoHands hands = told(HEAP + "over 0 1;hand 0 0;hand 1 0;");
        due("hand(0, -1)", hands.hand(0, -1), 1);
        due("hand(0, -1)", hands.hand(0, -1), 0);
        due("hand(1, 1)", hands.hand(1, 1), 1);
        due("hand(0, 0)", hands.hand(0, 0), -9);
        due("hand(0, 1)", hands.hand(0, 1), 0);
    }

    private static void ways() {
        sentence("16: WAYS of HANDS, each HAND told halves them, a CHAIN of n has n and one");
        TwoHands hands = told(HEAP);
        int[] ways = {64, 32, 16, 8, 4, 2, 1};
        for (int i = 0; i < 6; i++) {
            due("ways()", hands.ways(), ways[i]);
            hands.hand(i, i % 2);
        }
        due("ways()", hands.ways(), 1);
        hands = told(HEAP + "over 0 1;over 1 2;over 2 3;over 3 4;over 4 5;");
        due("ways() of a CHAIN", hands.ways(), 7);
        hands.hand(2, 0);
        due("ways(): 2 and all below are lower", hands.ways(), 3);
        for (int i = 0; i < 6; i++) {
            due("MUST of " + i, hands.stroke(i, 5), i >= 2 ? 0 : 2);
        }
        hands.hand(2, 1);
        due("ways(): 2 and all above are upper", hands.ways(), 4);
        for (int i = 0; i < 6; i++) {
            due("MUST of " + i, hands.stroke(i, 5), i <= 2 ? 1 : 2);
        }
        sentence("MUST: 2 where there is one of each kind of WAY");
        hands = told("stroke 0 0 0 1;");
        due("MUST", hands.stroke(0, 5), 2);
        due("ways()", hands.ways(), 2);
    }

    private static void rings() {
        sentence("12: -3, i is below 0; NONE, none was");
        TwoHands hands = told(HEAP + "over 0 1;over 1 2;over 2 3;over 3 4;over 4 5;");
        for (int i : new int[] {-1, -2, MIN}) {
            due("ring(" + i + ")", hands.ring(i), -3);
        }
        for (int i : new int[] {0, 1, 11, 12, MAX}) {
            due("ring(" + i + ")", hands.ring(i), -1);
        }
        sentence("RING: beginning with the first of the one that was refused, each told OVER the next");
        due("over(5, 0)", hands.over(5, 0), -5);
        dueRing(hands, 5, 0, 1, 2, 3, 4);
        due("over(3, 1)", hands.over(3, 1), -5);
        dueRing(hands, 3, 1, 2);
        due("over(1, 0)", hands.over(1, 0), -5);
        dueRing(hands, 1, 0);
        sentence("RING: NONE, not so many, of a shorter one that comes behind a longer one");
        for (int i : new int[] {2, 3, 5, 6, 11, 12, MAX}) {
            due("ring(" + i + ")", hands.ring(i), -1);
        }
        due("ring(-1)", hands.ring(-1), -3);
        sentence("RING: with fewest STROKES");
        hands.over(0, 3);
        due("over(4, 0)", hands.over(4, 0), -5);
        dueRing(hands, 4, 0, 3);
        sentence("RING: STROKE 0 may stand at any place of it");
        hands = told(HEAP + "over 3 0;over 0 5;over 5 1;");
        due("over(1, 3)", hands.over(1, 3), -5);
        dueRing(hands, 1, 3, 0, 5);
        due("over(5, 3)", hands.over(5, 3), -5);
        dueRing(hands, 5, 3, 0);
        due("over(0, 3)", hands.over(0, 3), -5);
        dueRing(hands, 0, 3);
        due("over(1, 0)", hands.over(1, 0), -5);
        dueRing(hands, 1, 0, 5);
        sentence("RING: of like ones the first as a row");
        hands = told(HEAP + "over 0 5;over 0 4;over 5 1;over 4 2;over 1 3;over 2 3;over 4 1;");
        due("over(3, 0)", hands.over(3, 0), -5);
        dueRing(hands, 3, 0, 4, 1);
        hands.takes(4, 1);
        due("over(3, 0)", hands.over(3, 0), -5);
        dueRing(hands, 3, 0, 4, 2);
        hands.takes(4, 2);
        due("over(3, 0)", hands.over(3, 0), -5);
        dueRing(hands, 3, 0, 5, 1);
        hands.over(0, 2);
        due("over(3, 0)", hands.over(3, 0), -5);
        dueRing(hands, 3, 0, 2);
        sentence("RING: of like ones the first as a row, not the first step that leads on");
        hands = told(HEAP + "over 5 1;over 5 2;over 1 3;over 3 4;over 2 4;over 4 0;");
        due("over(0, 5)", hands.over(0, 5), -5);
        dueRing(hands, 0, 5, 2, 4);
    }

    private static void ringStays() {
        sentence("RING: the latest stays till another one is refused");
        TwoHands hands = told(HEAP + "over 0 1;over 1 2;letter a 1 1;");
        due("over(2, 0)", hands.over(2, 0), -5);
        dueRing(hands, 2, 0, 1);
        hands.over(0, 0);
        hands.over(0, 1);
        hands.over(0, 9);
        dueRing(hands, 2, 0, 1);
        hands.over(3, 4);
        hands.takes(1, 2);
        dueRing(hands, 2, 0, 1);
        hands.hand(4, 1);
        hands.hand(3, 0);
        hands.weigh(0, 5);
        hands.undo();
        hands.undo();
        dueRing(hands, 2, 0, 1);
        sentence("RING: mending() refuses none in its stead");
        hands.row(0, 1, 2);
        hands.write(0, 0, 4);
        hands.write(0, 1, 3);
        due("mending(0, 1)", hands.mending(0, 1), 1);
        dueRing(hands, 2, 0, 1);
        sentence("RING: stays over texts, taken and refused");
        due("tell(0)", hands.tell(0), 0);
        dueRing(hands, 2, 0, 1);
        due("tell", tellText(hands, "page"), -31);
        dueRing(hands, 2, 0, 1);
        due("tell", tellText(hands, HEAP + "over 0 1;hand 0 0;hand 1 1;"), -36);
        dueRing(hands, 2, 0, 1);
        due("tell", tellText(hands, HEAP + "over 0 1;over 0 1;"), -33);
        dueRing(hands, 2, 0, 1);
        sentence("RING: another one is refused by tell(), then by over()");
        due("tell", tellText(hands, HEAP + "over 4 5;over 5 4;"), -35);
        dueRing(hands, 5, 4);
        due("tell", tellText(hands, HEAP + "over 3 2;"), 7);
        dueRing(hands, 5, 4);
        due("over(2, 3)", hands.over(2, 3), -5);
        dueRing(hands, 2, 3);
        sentence("RING: it is shown by what was told then, not now");
        hands.takes(3, 2);
        dueRing(hands, 2, 3);
    }

    private static void weighs() {
        sentence("8: -2, nothing changes");
        for (int letter : new int[] {-1, 5, 10, MIN, MAX}) {
            refusedCall("weigh(" + letter + ", 5)", ByHandTests::busy, hands -> hands.weigh(letter, 5), -2);
            refusedCall("weigh(" + letter + ", 0)", ByHandTests::busy, hands -> hands.weigh(letter, 0), -2);
        }
        sentence("8: -3, a WEIGHT is 1 to 99; nothing changes");
        for (int weight : new int[] {0, 100, -1, MIN, MAX}) {
            refusedCall("weigh(0, " + weight + ")", ByHandTests::busy, hands -> hands.weigh(0, weight), -3);
        }
        sentence("8: what it was");
        TwoHands hands = told(LEAF);
        due("weigh(4, 1)", hands.weigh(4, 1), 4);
        due("weigh(4, 99)", hands.weigh(4, 99), 1);
        due("weigh(4, 99)", hands.weigh(4, 99), 99);
        due("WEIGHT", hands.letter(4, 2), 99);
        due("count(6)", hands.count(6), 3);
    }

    private static void acts() {
        sentence("9: -5, none can; nothing changes");
        refusedCall("undo()", leaf -> tellText(leaf, LEAF), TwoHands::undo, -5);
        due("of a new object", new TwoHands().undo(), -5);
        sentence("ACTS: even if all is as it was");
        TwoHands hands = told(LEAF);
        due("hand(1, 1)", hands.hand(1, 1), 2);
        due("weigh(0, 3)", hands.weigh(0, 3), 3);
        due("hand(0, -1)", hands.hand(0, -1), 0);
        due("count(6)", hands.count(6), 3);
        due("undo()", hands.undo(), 2);
        due("undo()", hands.undo(), 1);
        due("undo()", hands.undo(), 0);
        due("undo()", hands.undo(), -5);
        sentence("ACTS: those that are refused are none");
        hands.over(0, 0);
        hands.over(2, 0);
        hands.takes(2, 0);
        hands.hand(0, 2);
        hands.hand(9, 0);
        hands.weigh(0, 0);
        hands.undo();
        due("count(6)", hands.count(6), 0);
        sentence("ACTS: rows are none");
        hands.row(0, 0, 3);
        hands.write(0, 0, 3);
        hands.paste(0, 0, 0, 1, 1);
        due("count(6)", hands.count(6), 0);
    }

    private static void twelveActs() {
        sentence("ACTS: twelve can be UNDONE");
        TwoHands hands = told(LEAF);
        for (int i = 1; i <= 12; i++) {
            hands.weigh(0, 50 + i);
            due("count(6)", hands.count(6), i);
        }
        for (int i = 11; i >= 0; i--) {
            due("undo()", hands.undo(), i);
            due("WEIGHT", hands.letter(0, 2), i == 0 ? 3 : 50 + i);
        }
        due("undo()", hands.undo(), -5);
        sentence("ACTS: one more than twelve, the oldest can't be");
        for (int i = 1; i <= 13; i++) {
            hands.weigh(0, 50 + i);
            due("count(6)", hands.count(6), Math.min(i, 12));
        }
        for (int i = 11; i >= 0; i--) {
            due("undo()", hands.undo(), i);
        }
        due("undo()", hands.undo(), -5);
        due("the oldest stays", hands.letter(0, 2), 51);
        sentence("ACTS: what is UNDONE gives way to new ones");
        for (int round = 0; round < 5; round++) {
            for (int i = 0; i < 7; i++) {
                hands.weigh(1, 20 + i);
            }
            due("count(6)", hands.count(6), round == 0 ? 7 : round == 1 ? 10 : 12);
            for (int i = 0; i < 4; i++) {
                hands.undo();
            }
            due("WEIGHT", hands.letter(1, 2), 22);
        }
        sentence("ACTS: of all four kinds, one behind the other, the latest first");
        hands = told(LEAF);
        hands.over(3, 2);
        hands.hand(3, 1);
        hands.takes(1, 0);
        hands.weigh(2, 77);
        hands.takes(3, 2);
        hands.hand(3, 0);
        due("undo()", hands.undo(), 5);
        due("HAND", hands.stroke(3, 4), 2);
        due("undo()", hands.undo(), 4);
        due("is OVER", hands.stroke(3, 8), 0b0100);
        due("undo()", hands.undo(), 3);
        due("WEIGHT", hands.letter(2, 2), 2);
        due("undo()", hands.undo(), 2);
        due("is OVER", hands.stroke(1, 8), 0b0101);
        due("undo()", hands.undo(), 1);
        due("HAND", hands.stroke(3, 4), 0);
        due("undo()", hands.undo(), 0);
        dueText("all as it was", state(hands), state(told(LEAF)));
    }

    private static void actsAndTexts() {
        sentence("ACTS: tell() that is taken forgets them, be it of no byte");
        TwoHands hands = told(LEAF);
        hands.weigh(0, 9);
        hands.hand(0, 1);
        due("count(6)", hands.count(6), 2);
        due("tell", tellText(hands, LEAF), 22);
        due("count(6)", hands.count(6), 0);
        due("undo()", hands.undo(), -5);
        due("WEIGHT", hands.letter(0, 2), 3);
        hands.weigh(0, 9);
        due("tell(0)", hands.tell(0), 0);
        due("undo()", hands.undo(), -5);
        sentence("ACTS: tell() that isn't taken doesn't forget them");
        hands = told(LEAF);
        hands.weigh(0, 9);
        hands.hand(0, 1);
        due("tell(-1)", hands.tell(-1), -3);
        due("tell(1)", hands.tell(1), -3);
        due("tell", tellText(hands, "page 9 9"), -31);
        due("count(6)", hands.count(6), 2);
        due("undo()", hands.undo(), 1);
        due("HAND", hands.stroke(0, 4), 0);
        due("undo()", hands.undo(), 0);
        due("WEIGHT", hands.letter(0, 2), 3);
        sentence("ACTS: ROWS stay in each case");
        hands = told("letter a 511 1;letter b 511 1;stroke 0 0 0 3;stroke 0 1 0 3;stroke 0 2 0 3;place 0 0;place 0 0;");
        hands.weigh(0, 9);
        hands.row(1, 1, 2);
        hands.write(1, 0, 1);
        due("judge(1)", hands.judge(1), 2);
        hands.undo();
        due("count(12)", hands.count(12), 1);
        due("judge(1)", hands.judge(1), 2);
        tellText(hands, "letter a 511 1;stroke 0 0 0 3;stroke 0 1 0 3;stroke 0 2 0 3;place 0 0;place 0 0;");
        due("count(12)", hands.count(12), 1);
        due("the first isn't one now", hands.judge(1), 0);
        due("write(1, 0, 0)", hands.write(1, 0, 0), 0);
        due("judge(1)", hands.judge(1), 2);
        tellText(hands, "nonsense");
        due("judge(1)", hands.judge(1), 2);
    }

    public static void main(String[] args) {
        overRefused();
        overTaken();
        takesCalls();
        hands();
        ways();
        rings();
        ringStays();
        weighs();
        acts();
        twelveActs();
        actsAndTexts();
        end("by hand");
    }
}
