/** THE TAPE: feed() and tell() with n at its ends. */
public final class TapeTests extends Checks {
    private static final int BLANKS = 0x20202020;

    private static TwoHands fed(int feeds) {
        TwoHands hands = new TwoHands();
        for (int i = 1; i <= feeds; i++) {
            due("feed " + i, hands.feed(BLANKS, BLANKS, BLANKS, BLANKS, BLANKS), 20 * i);
        }
        return hands;
    }

    private static void feeds() {
        sentence("2: twenty bytes a call, 900 at most");
        TwoHands hands = fed(45);
        due("count(7)", hands.count(7), 900);
        sentence("2: -3, it would have more than 900; nothing changes");
        due("one feed more", hands.feed(0x3f3f3f3f, 0, 0, 0, 0), -3);
        due("and more", hands.feed(0, 0, 0, 0, 0), -3);
        due("count(7)", hands.count(7), 900);
        due("all are blanks", hands.tell(900), 0);
        due("count(7)", hands.count(7), 0);
        sentence("2: THE TAPE takes 900 anew, once it is empty");
        for (int i = 1; i <= 45; i++) {
            due("feed " + i, hands.feed(BLANKS, BLANKS, BLANKS, BLANKS, BLANKS), 20 * i);
        }
        due("one feed more", hands.feed(0, 0, 0, 0, 0), -3);
        sentence("2: the highest byte of each int first, a to e");
        hands = new TwoHands();
        // "page", " 24 ", "12;s", "trok", "e 23"
        due("feed", hands.feed(0x70616765, 0x20323420, 0x31323b73, 0x74726f6b, 0x65203233), 20);
        // " 11 ", "3 1;", then bytes 255, 128, 0, 127
        due("feed", hands.feed(0x20313120, 0x3320313b, 0xff80007f, MIN, -1), 40);
        due("tell(28)", hands.tell(28), 2);
        due("WIDE", hands.count(8), 24);
        due("HIGH", hands.count(9), 12);
        due("x", hands.stroke(0, 0), 23);
        due("y", hands.stroke(0, 1), 11);
        sentence("2: bytes of ints below 0 are bytes like others");
        for (int sign = 0; sign < 4; sign++) {
            hands = new TwoHands();
            int ahead = sign == 0 ? 0xff202020 : sign == 1 ? 0x20ff2020 : sign == 2 ? 0x2020ff20 : 0x202020ff;
            hands.feed(BLANKS, ahead, BLANKS, BLANKS, BLANKS);
            due("tell(" + (4 + sign) + ")", hands.tell(4 + sign), 0);
            hands.feed(BLANKS, ahead, BLANKS, BLANKS, BLANKS);
            due("tell(20)", hands.tell(20), -31);
            due("fault(1)", hands.fault(1), 4 + sign);
        }
        sentence("2: bytes come behind those on THE TAPE");
        hands = new TwoHands();
        String text = "page 7 6;stroke 0 0 0 7;stroke 6 0 3 6;stroke 0 0 2 6;stroke 3 0 1 6;";
        feedText(hands, text.substring(0, 40));
        feedText(hands, text.substring(40));
        due("tell", hands.tell(text.length()), 5);
        due("count(0)", hands.count(0), 4);
    }

    private static void tells() {
        sentence("3: -3, n is below 0 (THE TAPE stays)");
        TwoHands hands = new TwoHands();
        feedText(hands, "page 9 8;");
        for (int n : new int[] {-1, -2, -20, MIN, MIN + 1}) {
            due("tell(" + n + ")", hands.tell(n), -3);
            due("count(7)", hands.count(7), 20);
        }
        sentence("3: -3, n is above what there is (THE TAPE stays)");
        for (int n : new int[] {21, 22, 40, 900, 901, MAX}) {
            due("tell(" + n + ")", hands.tell(n), -3);
            due("count(7)", hands.count(7), 20);
        }
        due("nothing was told", hands.count(8), 3);
        due("THE TAPE stayed", hands.tell(9), 1);
        due("WIDE", hands.count(8), 9);
        sentence("3: n is above what there is, where there is none");
        due("count(7)", hands.count(7), 0);
        due("tell(1)", hands.tell(1), -3);
        due("WIDE", hands.count(8), 9);
        sentence("3: n 0, THE TAPE is empty then");
        feedText(hands, "page 9 8;");
        due("tell(0)", hands.tell(0), 0);
        due("count(7)", hands.count(7), 0);
        due("WIDE", hands.count(8), 3);
        due("tell(0) of none", hands.tell(0), 0);
        sentence("3: n is all there is");
        feedText(hands, "page 5 5;place 2 2 ;");
        due("tell(21)", hands.tell(21), -3);
        due("tell(20)", hands.tell(20), 2);
        due("count(2)", hands.count(2), 1);
        hands = fed(45);
        due("tell(901)", hands.tell(901), -3);
        due("tell(900)", hands.tell(900), 0);
        sentence("3: n is less than there is: what is behind it is gone");
        feedText(hands, "page 5 5;place 2 2 ;");
        due("tell(9)", hands.tell(9), 1);
        due("count(7)", hands.count(7), 0);
        due("count(2)", hands.count(2), 0);
        due("tell(1)", hands.tell(1), -3);
        due("feed begins anew", hands.feed(0, 0, 0, 0, 0), 20);
    }

    private static void longTexts() {
        sentence("3: how many LINES, of a text of 900 bytes");
        // 50 LINES of 18 bytes
        String line = "hand 0 0         ;";
        TwoHands hands = new TwoHands();
        String text = "stroke 0 0 0 1   ;" + line.repeat(49);
        due("tell(900)", tellText(hands, text), 50);
        due("count(0)", hands.count(0), 1);
        sentence("3: how many LINES, as many as 900 bytes can have");
        text = "stroke 0 0 0 1;" + "hand 0 0;".repeat(98);
        due("tell", tellText(hands, text), 99);
        due("HAND", hands.stroke(0, 4), 1);
        sentence("3: a FAULT, and THE TAPE is empty then");
        feedText(hands, "page 5 5;place 2 3;");
        due("tell", hands.tell(19), -32);
        due("count(7)", hands.count(7), 0);
        due("tell(0)", hands.tell(0), 0);
        sentence("3: -30 less the FAULT, each one");
        String two = "stroke 0 0 0 3;stroke 0 0 1 3;";
        String[] texts = {";", "page 0 0;", "word a;", "place 0 0;".repeat(9), two + "over 0 1;over 1 0;",
            two + "over 0 1;hand 0 0;hand 1 1;"};
        for (int i = 0; i < texts.length; i++) {
            due("tell: " + texts[i], tellText(hands, texts[i]), -31 - i);
            due("fault(0)", hands.fault(0), i + 1);
            due("count(7)", hands.count(7), 0);
        }
    }

    public static void main(String[] args) {
        feeds();
        tells();
        longTexts();
        end("tape");
    }
}
