import java.util.ArrayList;
import java.util.List;

/** THE TEXT: each FAULT at each kind of LINE that it can stand in, with its place, and what goes ahead of what. */
public final class FaultTests extends Checks {
    /** LINES of each kind, all of which hold; # stands ahead of each of their pieces. */
    private static final String PIECES = "#page #12 #11 #; #stroke #10 #0 #1 #9 #; #stroke #2 #0 #2 #9 #; #hand #1 #1 #; "
            + "#over #1 #0 #; #letter #a #511 #99 #; #letter #z #10 #10 #; #place #0 #0 #; #place #1 #1 #; "
            + "#word #azaz #; #run #0 #2 #;";
    private static final String TWO = "stroke 0 0 0 3;stroke 0 0 1 3;";

    private static String text() {
        return PIECES.replace("#", "");
    }

    private static List<Integer> starts() {
        List<Integer> starts = new ArrayList<>();
        for (int i = 0; i < PIECES.length(); i++) {
            if (PIECES.charAt(i) == '#') {
                starts.add(i - starts.size());
            }
        }
        return starts;
    }

    private static String pieceAt(int start) {
        String rest = text().substring(start);
        return rest.contains(" ") ? rest.substring(0, rest.indexOf(' ')) : rest;
    }

    /** A piece of the text is put out, another one (or none) into its place. */
    private static String with(int start, String other) {
        return text().substring(0, start) + other + text().substring(start + pieceAt(start).length());
    }

    private static boolean isNumber(String piece) {
        return Character.isDigit(piece.charAt(0));
    }

    private static boolean isSmall(String piece) {
        return piece.charAt(0) >= 'a' && piece.charAt(0) <= 'z';
    }

    private static boolean isName(int start) {
        return text().substring(0, start).endsWith("letter ") || text().substring(0, start).endsWith("word ");
    }

    private static void wholeText() {
        sentence("THE TEXT: one LINE of each kind is taken");
        taken(text(), 11);
        sentence("blanks may stand between all, and at both ends");
        taken("   " + text().replace(" ", "    ") + "    ", 11);
        sentence("a WORD may be a word that begins a LINE");
        taken("letter r 1 1;letter u 1 1;letter n 1 1;word run;place 0 0;run 0 1;", 6);
        sentence("a blank is needed between two words and between two numbers alone");
        taken("page12 11;stroke10 0 1 9;stroke2 0 2 9;hand1 1;over1 0;letter a511 99;place0 0;word a;run0 1;", 9);
        refusedAt("<lettera 1 1;", 1);
        refusedAt("letter a 1 1;<worda;", 1);
        refusedAt("page <33;", 2);
        refusedAt("page <1010;", 2);
        refusedAt("stroke 00 0 1<;", 1);
    }

    private static void wrongKinds() {
        sentence("1 what can't stand there: a sign, a semicolon in place of each piece");
        for (int start : starts()) {
            String piece = pieceAt(start);
            refused(with(start, ","), 1, start);
            refused(with(start, "-1"), 1, start);
            if (!piece.equals(";")) {
                refused(with(start, ";"), 1, start);
            }
        }
        sentence("1 what can't stand there: a word in place of each number and semicolon, a number of each word");
        for (int start : starts()) {
            String piece = pieceAt(start);
            if (!isSmall(piece)) {
                refused(with(start, "a"), 1, start);
                refused(with(start, "page"), 1, start);
            }
            if (!isNumber(piece)) {
                refused(with(start, "3"), 1, start);
            }
        }
        sentence("1 what can't stand there: a number of too many digits is still no word, no semicolon (of one place the least)");
        for (int start : starts()) {
            if (!isNumber(pieceAt(start))) {
                refused(with(start, "99999"), 1, start);
            }
        }
        sentence("1 what can't stand there: another word at the beginning of each LINE");
        for (int start : starts()) {
            if (isSmall(pieceAt(start)) && !isName(start)) {
                refused(with(start, "lines"), 1, start);
                refused(with(start, pieceAt(start) + "s"), 1, start);
                refused(with(start, pieceAt(start).substring(1)), 1, start);
                refused(with(start, pieceAt(start).toUpperCase()), 1, start);
                for (int i = 0; i < pieceAt(start).length(); i++) {
                    StringBuilder other = new StringBuilder(pieceAt(start));
                    other.setCharAt(i, 'q');
                    refused(with(start, other.toString()), 1, start);
                }
            }
        }
        sentence("1 what can't stand there: one piece left out of each LINE, the next one stands in its place");
        for (int start : starts()) {
            String rest = with(start, "").substring(start).stripLeading();
            boolean isSameKind = !rest.isEmpty() && isNumber(pieceAt(start)) && isNumber(rest);
            if (!isSameKind) {
                refused(text().substring(0, start) + rest, 1, start);
            }
        }
        sentence("1 what can't stand there: one number more at the end of each LINE, two semicolons");
        for (int start : starts()) {
            if (pieceAt(start).equals(";")) {
                refused(with(start, "0 ;"), 1, start);
                refused(with(start, "; ;"), 1, start + 2);
            }
        }
    }

    private static void ends() {
        sentence("1 the end: how many bytes there are; a text that ends in the midst of a LINE, byte by byte");
        List<Integer> starts = starts();
        for (int size = 0; size <= text().length(); size++) {
            String cut = text().substring(0, size);
            int lines = (int) cut.chars().filter(sign -> sign == ';').count();
            int last = 0;
            for (int start : starts) {
                last = start < size ? start : last;
            }
            boolean inWord = size > last && size < last + pieceAt(last).length() && isSmall(pieceAt(last)) && !isName(last);
            if (cut.isBlank() || cut.stripTrailing().endsWith(";")) {
                taken(cut, lines);
            } else if (inWord) {
                refused(cut, 1, last);
            } else if (cut.equals("page 1") || cut.equals("page 12 1")) {
                refused(cut, 2, last);
            } else {
                refused(cut, 1, size);
            }
        }
        sentence("1 the end: bytes of THE TAPE behind n are no part of THE TEXT");
        for (int size = 0; size <= text().length(); size++) {
            TwoHands alone = new TwoHands();
            int answer = tellText(alone, text().substring(0, size));
            TwoHands whole = new TwoHands();
            feedText(whole, text());
            due("tell(" + size + ")", whole.tell(size), answer);
            due("its FAULT", whole.fault(0), alone.fault(0));
            due("its place", whole.fault(1), alone.fault(1));
        }
        TwoHands hands = new TwoHands();
        feedText(hands, "page 5 5555;");
        due("tell(8), in the midst of a number", hands.tell(8), -31);
        due("fault(1)", hands.fault(1), 8);
        feedText(hands, "letter a 1 1;word aaaaaaaa;");
        due("tell(24), in the midst of a word", hands.tell(24), -31);
        due("fault(1)", hands.fault(1), 24);
        feedText(hands, "page 5 5;page 5 5;");
        due("tell(8)", hands.tell(8), -31);
        due("fault(1)", hands.fault(1), 8);
        feedText(hands, "page 5 5;page 5 5;");
        due("tell(9)", hands.tell(9), 1);
        sentence("a text of no byte, a text of blanks: no LINE");
        taken("", 0);
        taken(" ", 0);
        taken(" ".repeat(900), 0);
        sentence("1 the end, behind blanks: how many bytes there are");
        refused("page     ", 1, 9);
        refused("page 5 5" + " ".repeat(892), 1, 900);
    }

    private static void pageLines() {
        sentence("1 page behind another LINE (at it), whatever that is");
        String before = "";
        for (String line : (text().replace(" ;", ";").replace("; ", ";")).split(";")) {
            before = before + line + ";";
            refused(before + "page 12 11;", 1, before.length());
            refused(before + " page", 1, before.length() + 1);
        }
        for (String line : new String[] {"stroke 0 0 0 1;", "letter a 1 1;", "place 0 0;"}) {
            refused(line + "page 5 5;", 1, line.length());
        }
    }

    private static void otherBytes() {
        sentence("other bytes, one by one: each of them ahead of a LINE");
        for (int sign = 0; sign < 256; sign++) {
            boolean isBlank = sign == ' ';
            boolean isDigit = sign >= '0' && sign <= '9';
            String ahead = (char) sign + "page 5 5;";
            String inside = "page 5" + (char) sign + "5;";
            String last = "page 5 5" + (char) sign + ";";
            String behind = "page 5 5;" + (char) sign;
            if (isBlank) {
                taken(ahead, 1);
                taken(inside, 1);
                taken(last, 1);
                taken(behind, 1);
                continue;
            }
            refused(ahead, 1, 0);
            refused(behind, 1, 9);
            if (isDigit) {
                refused(inside, 2, 5);
                refused(last, 2, 7);
            } else {
                refused(inside, 1, 6);
                refused(last, 1, sign == ';' ? 9 : 8);
            }
        }
        sentence("other bytes, one by one: the first of several, close behind a number, a word");
        refused("page 5,,5;", 1, 6);
        refused("page..5 5;", 1, 4);
        refused("page 5 5;\n\n", 1, 9);
        refused("page\t5 5;", 1, 4);
        refused("letter a\u00e9 1 1;", 1, 8);
        refused("page 5 5\u00ff;", 1, 8);
        refused("\u0000", 1, 0);
        refused("page 5 5;\u0000", 1, 9);
        refused("page +5 5;", 1, 5);
        refused("page 5.0 5;", 1, 6);
    }

    private static void digits() {
        sentence("2 a number of more than four digits (at its first byte), in place of each number");
        for (int start : starts()) {
            if (isNumber(pieceAt(start))) {
                refused(with(start, "00000"), 2, start);
                refused(with(start, "00001"), 2, start);
                refused(with(start, "10000"), 2, start);
                refused(with(start, "4294967300"), 2, start);
                refused(with(start, "9".repeat(60)), 2, start);
            }
        }
        sentence("2 a number out of its bounds, of four digits, in place of each number");
        for (int start : starts()) {
            if (isNumber(pieceAt(start))) {
                refused(with(start, "9999"), 2, start);
                refused(with(start, "1000"), 2, start);
            }
        }
        sentence("numbers of four digits, noughts ahead of them, are taken");
        for (int start : starts()) {
            String piece = pieceAt(start);
            if (isNumber(piece)) {
                taken(with(start, "0".repeat(4 - piece.length()) + piece), 11);
            }
        }
    }

    private static void boundsInLines() {
        sentence("2 a number out of its bounds: hand");
        refusedAt("hand <0 0;", 2);
        refusedAt(TWO + "hand <2 0;", 2);
        refusedAt(TWO + "hand 1 <2;", 2);
        sentence("2 a number out of its bounds: over");
        refusedAt("over <0 0;", 2);
        refusedAt(TWO + "over <2 0;", 2);
        refusedAt(TWO + "over 0 <2;", 2);
        sentence("STROKES are told ahead: hand, over");
        refusedAt("stroke 0 0 0 3;hand <1 0;stroke 0 0 1 3;", 2);
        refusedAt("stroke 0 0 0 3;over 0 <1;stroke 0 0 1 3;", 2);
        refusedAt("stroke 0 0 0 3;over <1 0;stroke 0 0 1 3;", 2);
        taken("stroke 0 0 0 3;hand 0 0;stroke 0 0 1 3;hand 1 1;over 1 0;stroke 2 2 0 1;hand 2 0;", 7);
        sentence("2 the first number along the LINE");
        refusedAt("page <2 2;", 2);
        refusedAt("stroke <3 3 4 0;", 2);
        refusedAt("stroke 2 <3 4 0;", 2);
        refusedAt("stroke 2 2 <4 0;", 2);
        refusedAt("letter a <0 0;", 2);
        refusedAt("place <1 1;", 2);
        refusedAt("hand <0 2;", 2);
        refusedAt("run <0 0;", 2);
    }

    private static void toldWrong() {
        sentence("3 a NAME told already (at it)");
        refusedAt("letter a 1 1;letter <a 1 1;", 3);
        refusedAt("letter a 1 1;letter b 1 1;letter c 1 1;letter <b 0 0;", 3);
        taken("letter b 1 1;letter a 1 1;", 2);
        sentence("3 a WORD with a letter that is no NAME (at it)");
        refusedAt("word <a;", 3);
        refusedAt("letter a 1 1;word <aaaaab;", 3);
        refusedAt("letter a 1 1;word a;word <b", 3);
        sentence("3 of over the second STROKE, if it is the first one");
        refusedAt(TWO + "over 0 <0;", 3);
        refusedAt(TWO + "over 1 <1 nonsense", 3);
        sentence("3 of over the second STROKE, if it doesn't CROSS the first one");
        refusedAt("stroke 0 0 0 3;stroke 0 1 0 3;over 0 <1;", 3);
        refusedAt("stroke 0 0 0 3;stroke 0 1 0 3;over 1 <0;", 3);
        sentence("3 of over, if that was told already");
        refusedAt(TWO + "over 0 1;over 0 <1;", 3);
        refusedAt(TWO + "over 1 0;over 1 <0;", 3);
        sentence("over that is so by a CHAIN isn't told already");
        TwoHands hands = taken("stroke 0 0 0 1;".repeat(3) + "over 0 1;over 1 2;over 0 2;", 6);
        due("count(5)", hands.count(5), 3);
        due("orders()", hands.orders(), 1);
        sentence("3 of run a PLACE of another RUN (at how many)");
        refusedAt("place 0 0;run 0 1;run 0 <1;", 3);
        refusedAt("place 0 0;place 0 0;place 0 0;run 1 1;run 0 <3;", 3);
    }

    private static void tooMany() {
        sentence("4 one too many of a kind, at the word stroke, ahead of what stands behind it");
        refusedAt("stroke 0 0 0 1;".repeat(12) + "<stroke 0 0 0 1;", 4);
        refusedAt("stroke 0 0 0 1;".repeat(12) + "<stroke", 4);
        refusedAt("stroke 0 0 0 1;".repeat(12) + "<stroke 99 0 0 1;", 4);
        refusedAt("stroke 0 0 0 1;".repeat(12) + " <stroke x;", 4);
        sentence("4 one too many of a kind, at the word letter");
        StringBuilder letters = new StringBuilder();
        for (char name = 'a'; name <= 'j'; name++) {
            letters.append("letter ").append(name).append(" 1 1;");
        }
        refusedAt(letters + "<letter k 1 1;", 4);
        refusedAt(letters + "<letter a 1 1;", 4);
        refusedAt(letters + "<letter", 4);
        refusedAt(letters + "<letter kk 0 0;", 4);
        sentence("4 one too many of a kind, at the word place");
        refusedAt("place 0 0;".repeat(8) + "<place 0 0;", 4);
        refusedAt("place 0 0;".repeat(8) + "<place", 4);
        refusedAt("place 0 0;".repeat(8) + "<place 9 9;", 4);
        sentence("4 one too many of a kind, at the word word");
        refusedAt("letter a 1 1;" + "word a;".repeat(12) + "<word a;", 4);
        refusedAt("letter a 1 1;" + "word a;".repeat(12) + "<word", 4);
        refusedAt("letter a 1 1;" + "word a;".repeat(12) + "<word b;", 4);
        refusedAt("letter a 1 1;" + "word a;".repeat(12) + "<word aaaaaaa;", 4);
        sentence("4 one too many of a kind, at the word run");
        String runs = "place 0 0;".repeat(5) + "run 0 1;run 1 1;run 2 1;run 3 1;";
        refusedAt(runs + "<run 4 1;", 4);
        refusedAt(runs + "<run", 4);
        refusedAt(runs + "<run 0 1;", 4);
        refusedAt(runs + "<run 9 9;", 4);
        sentence("hand and over may come as often as they will");
        taken(TWO + "hand 0 0;".repeat(40), 42);
        taken("stroke 0 0 0 1;".repeat(12) + "hand 3 1;hand 3 0;".repeat(30), 72);
    }

    private static void rings() {
        sentence("5 a RING would come (at the word over)");
        TwoHands hands = refusedAt(TWO + "over 0 1;<over 1 0;", 5);
        due("ring(0)", hands.ring(0), 1);
        due("ring(1)", hands.ring(1), 0);
        due("ring(2)", hands.ring(2), -1);
        hands = refusedAt("stroke 0 0 0 1;".repeat(4) + "over 0 1;over 1 2;over 2 3;<over 3 0;", 5);
        int[] ring = {3, 0, 1, 2, -1};
        for (int i = 0; i < ring.length; i++) {
            due("ring(" + i + ")", hands.ring(i), ring[i]);
        }
        sentence("5 is asked as the second number is read, ahead of what comes behind it");
        refusedAt(TWO + "over 0 1;<over 1 0", 5);
        refusedAt(TWO + "over 0 1;<over 1 0 0;", 5);
        refusedAt(TWO + "over 0 1;<over 1 0,", 5);
        refusedAt(TWO + "over 0 1;<over 1 0;nonsense", 5);
        sentence("5 is not asked ahead of the second number");
        refusedAt(TWO + "over 0 1;over 1<", 1);
        refusedAt(TWO + "over 0 1;over 1 <;", 1);
        refusedAt(TWO + "over 0 1;over 1 <2;", 2);
        refusedAt(TWO + "over 0 1;over 1 <00000;", 2);
        refusedAt(TWO + "over 0 1;over 1 <x;", 1);
    }

    private static void handless() {
        sentence("6 no WAY of HANDS would be left (at the word over)");
        refusedAt(TWO + "hand 0 0;hand 1 1;<over 0 1;", 6);
        taken(TWO + "hand 0 0;hand 1 1;over 1 0;", 5);
        taken(TWO + "hand 0 0;hand 1 0;over 0 1;", 5);
        refusedAt("stroke 0 0 0 1;".repeat(4) + "over 0 1;over 2 3;hand 0 0;hand 3 1;<over 1 2;", 6);
        sentence("6 no WAY of HANDS would be left (at the word hand)");
        refusedAt(TWO + "over 0 1;hand 0 0;<hand 1 1;", 6);
        refusedAt(TWO + "over 0 1;hand 1 1;<hand 0 0;", 6);
        refusedAt("stroke 0 0 0 1;".repeat(4) + "over 0 1;over 1 2;over 2 3;hand 0 0;<hand 3 1;", 6);
        sentence("6 is asked as the second number is read, ahead of what comes behind it");
        refusedAt(TWO + "hand 0 0;hand 1 1;<over 0 1", 6);
        refusedAt(TWO + "hand 0 0;hand 1 1;<over 0 1 1;", 6);
        refusedAt(TWO + "over 0 1;hand 0 0;<hand 1 1", 6);
        refusedAt(TWO + "over 0 1;hand 0 0;<hand 1 1 1;", 6);
        refusedAt(TWO + "over 0 1;hand 0 0;<hand 1 1x", 6);
        sentence("6 is not asked ahead of the second number");
        refusedAt(TWO + "hand 0 0;hand 1 1;over 0<", 1);
        refusedAt(TWO + "hand 0 0;hand 1 1;over 0 <2;", 2);
        refusedAt(TWO + "over 0 1;hand 0 0;hand 1<", 1);
        refusedAt(TWO + "over 0 1;hand 0 0;hand 1 <2;", 2);
        sentence("5 ahead of 6");
        refusedAt(TWO + "over 0 1;hand 0 1;hand 1 0;<over 1 0;", 5);
        sentence("hand: the latest counts");
        TwoHands hands = taken(TWO + "hand 0 0;hand 0 1;hand 1 1;hand 1 0;hand 1 1;over 0 1;", 8);
        due("HAND of 0", hands.stroke(0, 4), 2);
        due("HAND of 1", hands.stroke(1, 4), 2);
        refusedAt(TWO + "hand 0 1;hand 1 1;hand 0 0;<over 0 1;", 6);
    }

    private static void leastOfOnePlace() {
        sentence("of one place the least: 1 ahead of 3 (a WORD of more than six with a letter that is no NAME)");
        refusedAt("word <aaaaaaa;", 1);
        refusedAt("letter a 1 1;word <aaaaaab;", 1);
        sentence("of one place the least: 1 ahead of 3 (a NAME of two letters)");
        refusedAt("letter a 1 1;letter <aa 1 1;", 1);
        sentence("of one place the least: 2 ahead of 3 (of run how many)");
        refusedAt("place 0 0;place 0 0;run 0 2;run 0 <3;", 2);
        refusedAt("place 0 0;place 0 0;run 0 2;run 1 <0;", 2);
        refusedAt("place 0 0;".repeat(8) + "run 0 2;run 1 <7;", 2);
        sentence("of one place the least: 2 ahead of 3 (of over the second STROKE)");
        refusedAt(TWO + "over 0 <00000;", 2);
        sentence("3 of over, if it is the first one, doesn't CROSS it, was told: 5 and 6 are not asked");
        TwoHands hands = refusedAt(GRID + "over 0 3;over 3 1;over 1 <0;", 3);
        due("no RING is shown", hands.ring(0), -1);
        hands = refusedAt(TWO + "over 0 <0;", 3);
        due("no RING is shown", hands.ring(0), -1);
        refusedAt(GRID + "hand 0 0;hand 1 1;over 0 <1;", 3);
        sentence("the first along THE TEXT");
        refusedAt("page <2 13;strike", 2);
        refusedAt("page 5 5;<strike 1", 1);
        refusedAt(TWO + "hand 0 <2;over 0 0;page 9 9;", 2);
        refusedAt("letter a <0 1;letter a 1 1;", 2);
        refusedAt("stroke 0 0 0 <4;nonsense", 2);
        refusedAt("place 0 0;run 0 <2;run", 2);
    }

    private static void stays() {
        sentence("with a FAULT all stays, THE TAPE is empty");
        String[] texts = {"page", "page 2 9;", "letter a 1 1;letter a 1 1;", "place 0 0;".repeat(9),
            TWO + "hand 0 0;hand 1 1;over 0 1;", "page 24 12;stroke 0 0 0 9;letter q 1 1;place 3 3;word q;run 0 1;x"};
        int[] faults = {1, 2, 3, 4, 6, 1};
        for (int i = 0; i < texts.length; i++) {
            TwoHands untouched = busy();
            TwoHands touched = busy();
            due("tell: " + texts[i], tellText(touched, texts[i]), -30 - faults[i]);
            due("fault(0)", touched.fault(0), faults[i]);
            due("count(7)", touched.count(7), 0);
            String all = state(touched).replaceFirst("; fault -?\\d+ -?\\d+;", "; fault;");
            dueText("all else", all, state(untouched).replaceFirst("; fault -?\\d+ -?\\d+;", "; fault;"));
            due("undo()", touched.undo(), 4);
            due("HAND is undone", touched.stroke(3, 4), 0);
            due("undo()", touched.undo(), 3);
            due("WEIGHT is undone", touched.letter(1, 2), 5);
            due("undo()", touched.undo(), 2);
            due("over is undone", touched.count(5), 2);
            due("undo()", touched.undo(), 1);
            due("takes is undone", touched.count(5), 3);
            due("undo()", touched.undo(), 0);
            due("over is undone", touched.count(5), 2);
        }
        sentence("with FAULT 5 all stays, but for the RING that is shown");
        TwoHands hands = busy();
        due("ring(0)", hands.ring(0), 2);
        due("tell", tellText(hands, TWO + "over 0 1;over 1 0;"), -35);
        due("ring(0)", hands.ring(0), 1);
        due("ring(1)", hands.ring(1), 0);
        due("ring(2)", hands.ring(2), -1);
        due("count(0)", hands.count(0), 4);
        due("count(5)", hands.count(5), 3);
        due("count(6)", hands.count(6), 5);
    }

    /** LEAF with a RING refused, ACTS and ROWS. */
    private static TwoHands busy() {
        TwoHands hands = told(LEAF);
        hands.over(2, 0);
        hands.over(1, 3);
        hands.takes(1, 3);
        hands.takes(1, 3);
        hands.over(3, 2);
        hands.undo();
        hands.over(3, 2);
        hands.weigh(1, 9);
        hands.hand(3, 1);
        hands.row(0, 0, 3);
        hands.write(0, 1, 2);
        hands.row(2, 1, 0);
        return hands;
    }

    private static void faultCall() {
        sentence("4: NONE for place ahead of any, the FAULT is 0");
        TwoHands hands = new TwoHands();
        due("fault(0)", hands.fault(0), 0);
        due("fault(1)", hands.fault(1), -1);
        sentence("4: NONE for others");
        for (int what : new int[] {MIN, -30, -2, -1, 2, 3, 30, MAX}) {
            due("fault(" + what + ")", hands.fault(what), -1);
        }
        sentence("4: of the latest tell() that emptied THE TAPE; not of one that was refused by n");
        tellText(hands, "page 5 5;page 5 5;");
        due("fault(0)", hands.fault(0), 1);
        due("fault(1)", hands.fault(1), 9);
        due("tell(-1)", hands.tell(-1), -3);
        due("tell(1)", hands.tell(1), -3);
        due("fault(0)", hands.fault(0), 1);
        due("fault(1)", hands.fault(1), 9);
        hands.feed(0, 0, 0, 0, 0);
        due("tell(21)", hands.tell(21), -3);
        due("fault(0)", hands.fault(0), 1);
        due("fault(1)", hands.fault(1), 9);
        sentence("4: be it of no byte");
        due("tell(0)", hands.tell(0), 0);
        due("fault(0)", hands.fault(0), 0);
        due("fault(1)", hands.fault(1), -1);
        sentence("4: what is done by hand is no FAULT of a text");
        tellText(hands, TWO + "hand 0 7;");
        due("fault(0)", hands.fault(0), 2);
        due("over(0, 0)", hands.over(0, 0), -2);
        due("undo()", hands.undo(), -5);
        due("fault(0)", hands.fault(0), 2);
        due("fault(1)", hands.fault(1), TWO.length() + 7);
        tellText(hands, TWO);
        due("fault(0)", hands.fault(0), 0);
        due("fault(1)", hands.fault(1), -1);
        sentence("4: its place, at the first and behind the last byte of the longest text");
        TwoHands first = new TwoHands();
        tellText(first, "?" + " ".repeat(899));
        due("fault(1)", first.fault(1), 0);
        tellText(first, " ".repeat(899) + "?");
        due("fault(1)", first.fault(1), 899);
        tellText(first, " ".repeat(899) + "x");
        due("fault(1)", first.fault(1), 899);
        tellText(first, " ".repeat(896) + "page");
        due("fault(1)", first.fault(1), 900);
    }

    public static void main(String[] args) {
        wholeText();
        wrongKinds();
        ends();
        pageLines();
        otherBytes();
        digits();
        boundsInLines();
        toldWrong();
        tooMany();
        rings();
        handless();
        leastOfOnePlace();
        stays();
        faultCall();
        end("faults");
    }
}
