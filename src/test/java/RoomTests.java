import java.lang.management.ManagementFactory;

/**
 * Room: a run of 512 calls takes little more than its object does, as rows are made with the object and used again.
 * Counted in bytes of the heap, of which an int takes four.
 */
public final class RoomTests extends Checks {
    private static final int CALLS = 512;
    private static final long MOST_OF_AN_OBJECT = 64 * 1024;
    private static final long MOST_OF_A_TELL = 256;
    /** None is made, but the machine may count something of its own. */
    private static final long MOST_OF_ALL_ASKING = 1024;
    private static final com.sun.management.ThreadMXBean THREADS =
            (com.sun.management.ThreadMXBean) ManagementFactory.getThreadMXBean();
    private static final String FULL = "page 9 9;stroke 0 0 0 9;stroke 0 1 0 9;stroke 0 2 0 9;stroke 0 3 0 9;"
            + "stroke 0 4 0 9;stroke 0 5 0 9;stroke 0 0 1 9;stroke 1 0 1 9;stroke 2 0 1 9;stroke 3 0 1 9;"
            + "stroke 4 0 1 9;stroke 5 0 1 9;over 0 6;over 7 0;hand 0 0;letter a 7 3;letter b 73 5;"
            + "place 0 0;place 3 3;word ab;word ba;run 0 2;";

    private static long bytes() {
        return THREADS.getThreadAllocatedBytes(Thread.currentThread().getId());
    }

    private static void atMost(String what, long got, long most) {
        due(what + " takes " + got + " bytes, at most " + most + ": 1", got <= most ? 1 : 0, 1);
    }

    private static long madeByObject() {
        long before = bytes();
        TwoHands hands = new TwoHands();
        long made = bytes() - before;
        due("count(0)", hands.count(0), 0);
        return made;
    }

    /** Each call but feed() and tell(), in turn, with numbers that there are. */
    private static long asked(TwoHands hands, int i) {
        int k = i / 39 % 2;
        switch (i % 39) {
            case 0: return hands.fault(k);
            case 1: return hands.over(1, 6 + k);
            case 2: return hands.takes(1, 6 + k);
            case 3: return hands.hand(k, 0);
            case 4: return hands.weigh(k, 7);
            case 5: return hands.undo();
            case 6: return hands.stroke(k, 6);
            case 7: return hands.crossing(k, 6);
            case 8: return hands.ring(k);
            case 9: return hands.order(k);
            case 10: return hands.orders();
            case 11: return hands.ahead(k, 6);
            case 12: return hands.ways();
            case 13: return hands.layers();
            case 14: return hands.top(k, 0);
            case 15: return hands.seen(k, 0);
            case 16: return hands.shows(k, 1);
            case 17: return hands.fits(k);
            case 18: return hands.sure(k);
            case 19: return hands.odds(k, 0);
            case 20: return hands.guess(k);
            case 21: return hands.words(0, k);
            case 22: return hands.likely(0);
            case 23: return hands.reads(k);
            case 24: return hands.letter(k, 3);
            case 25: return hands.asking(k);
            case 26: return hands.loose(k);
            case 27: return hands.scrape();
            case 28: return hands.clearer(k, 0);
            case 29: return hands.span(k, 2);
            case 30: return hands.paired(k, 6);
            case 31: return hands.likelihood(0, k);
            case 32: return hands.spoilt(k, 1);
            case 33: return hands.row(k, 1, 12);
            case 34: return hands.write(k, 0, 3);
            case 35: return hands.paste(k, 0, k, 3, 6);
            case 36: return hands.mending(k, 0);
            case 37: return hands.judge(k);
            default: return hands.count(10 + k) + hands.over(6, 0);
        }
    }

    private static long madeByAsking() {
        TwoHands hands = told(FULL);
        long before = bytes();
        long sum = 0;
        for (int i = 0; i < CALLS - 40; i++) {
            sum += asked(hands, i);
        }
        long made = bytes() - before;
        due("answers came", sum != 0 ? 1 : 0, 1);
        return made;
    }

    private static long madeByTelling() {
        TwoHands hands = new TwoHands();
        feedText(hands, FULL);
        long before = bytes();
        hands.tell(FULL.length());
        for (int i = 0; i < CALLS / 2; i++) {
            hands.feed(0x70616765, 0x20332033, 0x3b202020, 0, 0);
            hands.tell(12);
        }
        long made = bytes() - before;
        due("all are taken", hands.fault(0), 0);
        return made / (CALLS / 2);
    }

    public static void main(String[] args) {
        // what the machine itself makes when a class is used for the first time is no part of a run
        madeByObject();
        madeByAsking();
        madeByTelling();
        sentence("room: an object");
        atMost("an object", madeByObject(), MOST_OF_AN_OBJECT);
        sentence("room: calls but feed() and tell()");
        atMost("calls", madeByAsking(), MOST_OF_ALL_ASKING);
        sentence("room: feed() and tell()");
        atMost("a tell", madeByTelling(), MOST_OF_A_TELL);
        end("room");
    }
}
