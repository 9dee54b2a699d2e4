import java.util.ArrayList;
import java.util.List;
import java.util.function.Consumer;

/** What is asked again: after each ACT, after undo(), after texts, one behind the other; nothing of the old one is left. */
public final class AgainTests extends Checks {
    private static final String START = "page 6 6;stroke 0 0 0 6;stroke 0 2 0 6;stroke 0 4 0 6;stroke 1 0 1 6;stroke 3 0 1 6;"
            + "stroke 5 0 1 6;over 0 3;over 3 1;over 1 4;hand 1 0;letter a 455 3;letter b 511 5;letter c 463 2;letter d 1 9;"
            + "place 0 0;place 1 1;place 3 0;place 2 2;word ab;word bc;word ba;word c;word cb;run 0 2;run 3 1;";
    /** As many of each kind as there may be, with CHAINS and HANDS. */
    private static final String FULL = "page 24 12;" + "stroke 0 0 0 9;".repeat(12) + "over 0 1;over 1 2;over 2 3;over 5 6;"
            + "over 7 8;hand 0 1;hand 3 1;hand 8 1;hand 9 0;letter a 511 9;letter b 511 9;letter c 511 9;letter d 511 9;letter e 511 9;"
            + "letter f 511 9;letter g 511 9;letter h 511 9;letter i 511 9;letter j 511 9;" + "place 0 0;".repeat(8)
            + "word aaaaaa;".repeat(6) + "word ab;".repeat(4) + "word a;word a;run 0 2;run 2 1;run 3 4;run 7 1;";
    private static final String SMALL = "stroke 0 0 0 3;stroke 0 0 1 3;letter q 7 1;letter r 511 2;place 0 0;word q;word rq;";

    private record Named(String name, Asked asked) {
    }

    private static List<Named> asks() {
        List<Named> asks = new ArrayList<>();
        asks.add(new Named("orders()", TwoHands::orders));
        asks.add(new Named("ways()", TwoHands::ways));
        asks.add(new Named("layers()", TwoHands::layers));
        asks.add(new Named("scrape()", TwoHands::scrape));
        for (int i = 0; i < 3; i++) {
            int k = i;
            asks.add(new Named("ahead(" + k + ", 4)", hands -> hands.ahead(k, 4)));
            asks.add(new Named("span(" + k + ", 2)", hands -> hands.span(k, 2)));
            asks.add(new Named("paired(" + k + ", 3)", hands -> hands.paired(k, 3)));
            asks.add(new Named("order(" + k + ")", hands -> hands.order(k)));
            asks.add(new Named("asking(" + k + ")", hands -> hands.asking(k)));
            asks.add(new Named("stroke(" + k + ", 5)", hands -> hands.stroke(k, 5)));
            asks.add(new Named("stroke(" + k + ", 6)", hands -> hands.stroke(k, 6)));
            asks.add(new Named("stroke(" + k + ", 8)", hands -> hands.stroke(k, 8)));
            asks.add(new Named("stroke(" + k + ", 9)", hands -> hands.stroke(k, 9)));
            asks.add(new Named("loose(" + k + ")", hands -> hands.loose(k)));
            asks.add(new Named("spoilt(" + k + ", 0)", hands -> hands.spoilt(k, 0)));
            asks.add(new Named("top(" + k + ", 0)", hands -> hands.top(k, 0)));
            asks.add(new Named("seen(" + k + ", 2)", hands -> hands.seen(k, 2)));
            asks.add(new Named("mending(" + k + ", 0)", hands -> hands.mending(k, 0)));
            asks.add(new Named("mending(" + k + ", 1)", hands -> hands.mending(k, 1)));
            asks.add(new Named("judge(" + k + ")", hands -> hands.judge(k)));
        }
        for (int i = 0; i < 4; i++) {
            int k = i;
            asks.add(new Named("shows(" + k + ", 1)", hands -> hands.shows(k, 1)));
            asks.add(new Named("shows(" + k + ", 2)", hands -> hands.shows(k, 2)));
            asks.add(new Named("fits(" + k + ")", hands -> hands.fits(k)));
            asks.add(new Named("sure(" + k + ")", hands -> hands.sure(k)));
            asks.add(new Named("odds(" + k + ", 1)", hands -> hands.odds(k, 1)));
            asks.add(new Named("guess(" + k + ")", hands -> hands.guess(k)));
            asks.add(new Named("reads(" + k + ")", hands -> hands.reads(k)));
            asks.add(new Named("letter(" + k + ", 3)", hands -> hands.letter(k, 3)));
            asks.add(new Named("clearer(" + k + ", 0)", hands -> hands.clearer(k, 0)));
            asks.add(new Named("words(0, " + (k - 1) + ")", hands -> hands.words(0, k - 1)));
            asks.add(new Named("likelihood(0, " + k + ")", hands -> hands.likelihood(0, k)));
        }
        asks.add(new Named("likely(0)", hands -> hands.likely(0)));
        asks.add(new Named("likely(1)", hands -> hands.likely(1)));
        asks.add(new Named("count(5)", hands -> hands.count(5)));
        asks.add(new Named("count(10)", hands -> hands.count(10)));
        asks.add(new Named("count(11)", hands -> hands.count(11)));
        return asks;
    }

    private static TwoHands started() {
        TwoHands hands = told(START);
        hands.row(0, 1, 4);
        hands.write(0, 0, 2);
        hands.write(0, 1, 5);
        hands.write(0, 2, 5);
        hands.row(1, 0, 2);
        hands.write(1, 1, 1);
        return hands;
    }

    /** One object has been asked all ahead of the change, the other nothing: each answer behind it is the same. */
    private static void sameBehind(String change, Consumer<TwoHands> changing) {
        List<Named> asks = asks();
        for (Named ask : asks) {
            TwoHands warm = started();
            for (Named other : asks) {
                other.asked().of(warm);
            }
            changing.accept(warm);
            TwoHands cold = started();
            changing.accept(cold);
            due(ask.name() + " behind " + change, ask.asked().of(warm), ask.asked().of(cold));
        }
    }

    private static void behindActs() {
        sentence("an ACT, then each call that asks");
        sameBehind("nothing", hands -> { });
        sameBehind("over", hands -> hands.over(2, 5));
        sameBehind("over that joins two CHAINS", hands -> hands.over(4, 2));
        sameBehind("takes", hands -> hands.takes(3, 1));
        sameBehind("hand", hands -> hands.hand(0, 0));
        sameBehind("hand NONE", hands -> hands.hand(1, -1));
        sameBehind("weigh", hands -> hands.weigh(0, 99));
        sentence("an ACT UNDONE, then each call that asks");
        sameBehind("over, undo", hands -> {
            hands.over(2, 5);
            hands.orders();
            hands.ahead(0, 1);
            hands.fits(0);
            hands.undo();
        });
        sameBehind("takes, undo", hands -> {
            hands.takes(3, 1);
            hands.orders();
            hands.ahead(0, 1);
            hands.fits(0);
            hands.undo();
        });
        sameBehind("hand, undo", hands -> {
            hands.hand(1, -1);
            hands.fits(0);
            hands.undo();
        });
        sameBehind("weigh, undo", hands -> {
            hands.weigh(1, 1);
            hands.guess(0);
            hands.undo();
        });
        sentence("a refused call, a call on ROWS, then each call that asks");
        sameBehind("a RING", hands -> hands.over(4, 1));
        sameBehind("mending", hands -> hands.mending(0, 0));
        sameBehind("a ROW", hands -> hands.write(0, 1, 4));
        sentence("a text, then each call that asks");
        sameBehind("a text that is taken", hands -> tellText(hands, FULL));
        sameBehind("a text that is refused", hands -> tellText(hands, FULL + "over 0 0;"));
        sameBehind("a text of no byte", hands -> hands.tell(0));
    }

    private static void undoneIsAsBefore() {
        sentence("UNDONE: all is as it was ahead of the ACT");
        List<Consumer<TwoHands>> acts = new ArrayList<>();
        acts.add(hands -> hands.over(2, 5));
        acts.add(hands -> hands.takes(3, 1));
        acts.add(hands -> hands.hand(0, 0));
        acts.add(hands -> hands.hand(1, -1));
        acts.add(hands -> hands.weigh(2, 50));
        for (Consumer<TwoHands> act : acts) {
            TwoHands hands = started();
            act.accept(hands);
            hands.orders();
            hands.ahead(0, 1);
            hands.fits(0);
            due("undo()", hands.undo(), 0);
            dueText("all", state(hands), state(started()));
        }
    }

    private static void texts() {
        sentence("THE TEXT is in place of all that was told ahead, however many there were");
        String[] texts = {"", SMALL, "page 3 12;", "letter q 1 1;word q;", "stroke 0 0 0 1;hand 0 0;place 0 0;letter q 1 1;"};
        for (String last : texts) {
            String want = state(told(last));
            TwoHands hands = told(FULL);
            tellText(hands, last);
            dueText("behind one", state(hands), want);
            hands = told(FULL);
            tellText(hands, FULL);
            tellText(hands, last);
            dueText("behind two", state(hands), want);
            hands = told(FULL);
            tellText(hands, START);
            tellText(hands, FULL);
            tellText(hands, last);
            dueText("behind three", state(hands), want);
        }
        sentence("THE TEXT is in place of all: nothing is left of a text that was refused, nor of mending()");
        for (String last : texts) {
            String want = state(told(last));
            TwoHands hands = told(FULL);
            due("tell", tellText(hands, FULL + "x"), -31);
            tellText(hands, last);
            dueText("behind one that was refused", state(hands), want);
            hands = told(SMALL);
            due("tell", tellText(hands, FULL + "x"), -31);
            tellText(hands, last);
            dueText("behind one that was refused", state(hands), want);
            hands = told(FULL);
            hands.row(0, 0, 2);
            hands.write(0, 0, 3);
            hands.write(0, 1, 4);
            hands.mending(0, 0);
            tellText(hands, last);
            hands.row(0, 0, 2);
            TwoHands other = told(last);
            other.row(0, 0, 2);
            dueText("behind mending()", state(hands), state(other));
        }
    }

    private static void mendings() {
        sentence("MENDING in a copy: by CHAINS and HANDS as they are");
        TwoHands hands = told(GRID + "over 0 3;hand 0 0;hand 1 1;");
        hands.row(0, 1, 2);
        hands.write(0, 0, 3);
        hands.write(0, 1, 1);
        due("no WAY would be left, by what is OVER the first", hands.mending(0, 1), 1);
        due("mending(0, 0)", hands.mending(0, 0), 360);
        hands = told(GRID + "over 3 0;hand 1 0;hand 0 1;");
        hands.row(0, 1, 2);
        hands.write(0, 0, 1);
        hands.write(0, 1, 3);
        due("no WAY would be left, by what the second is OVER", hands.mending(0, 1), 1);
        sentence("MENDING in a copy: twice the same, and ORDERS, WAYS as they were");
        hands = told(GRID + "over 0 3;");
        hands.row(0, 1, 4);
        int[] numbers = {3, 1, 1, 4};
        for (int i = 0; i < 4; i++) {
            hands.write(0, i, numbers[i]);
        }
        due("orders()", hands.orders(), 360);
        due("ways()", hands.ways(), 48);
        due("mending(0, 0)", hands.mending(0, 0), 30);
        due("ways()", hands.ways(), 48);
        due("mending(0, 0)", hands.mending(0, 0), 30);
        due("ahead(3, 0)", hands.ahead(3, 0), 360);
        due("mending(0, 0)", hands.mending(0, 0), 30);
        due("orders()", hands.orders(), 360);
        due("mending(0, 1)", hands.mending(0, 1), 0);
        due("span(3, 2)", hands.span(3, 2), 1333);
    }

    public static void main(String[] args) {
        behindActs();
        undoneIsAsBefore();
        texts();
        mendings();
        end("again");
    }
}
