import java.lang.reflect.Method;
import java.lang.reflect.Modifier;
import java.util.ArrayList;
import java.util.Arrays;
import java.util.Comparator;
import java.util.List;

/** Every call of the face with numbers at all edges, in several states, each answer held against the plain model. */
public final class GridRuns {
    private static final int MIN = Integer.MIN_VALUE;
    private static final int MAX = Integer.MAX_VALUE;
    private static final int[] ONE = {MIN, MIN + 1, -65536, -32769, -900, -31, -13, -9, -3, -2, -1, 0, 1, 2, 3, 4, 5, 6, 7, 8,
        9, 10, 11, 12, 13, 14, 20, 23, 24, 25, 31, 32, 33, 63, 64, 98, 99, 100, 511, 512, 899, 900, 901, 32767, 32768,
        65535, 65536, MAX - 1, MAX};
    private static final int[] TWO = {MIN, -65, -2, -1, 0, 1, 2, 3, 4, 5, 6, 7, 8, 9, 10, 11, 12, 13, 24, 32, 99, 100, MAX};
    private static final int[] THREE = {MIN, -32769, -1, 0, 1, 2, 3, 4, 11, 12, 13, 32768, 65536, MAX};
    private static final int[] FIVE = {MIN, -1, 0, 1, 2, 3, 4, MAX};
    private static final int CALLS = 300;

    private static final String GRID = "page 6 6;stroke 0 0 0 6;stroke 0 2 0 6;stroke 0 4 0 6;stroke 1 0 1 6;stroke 3 0 1 6;"
            + "stroke 5 0 1 6;over 0 3;over 3 1;over 5 2;hand 3 0;hand 5 1;";
    private static final String SCRIPT = "letter a 511 3;letter b 45 99;letter c 1 1;place 0 0;place 3 1;place 2 3;word ab;"
            + "word cb;word a;word bbb;run 0 1;run 1 2;";
    /** As many of each kind as there may be. */
    private static final String FULL = "page 24 12;stroke 0 0 0 9;stroke 4 0 1 9;stroke 0 0 2 9;stroke 8 0 3 9;stroke 0 5 0 9;"
            + "stroke 6 1 1 7;stroke 2 2 0 9;stroke 2 0 1 9;stroke 0 8 0 9;stroke 8 0 1 9;stroke 0 3 0 1;stroke 8 8 0 9;"
            + "over 0 1;over 1 4;over 4 7;over 2 0;over 5 4;over 9 8;over 6 3;over 7 8;hand 7 0;hand 2 1;hand 6 0;"
            + "letter a 511 99;letter b 64 98;letter c 255 1;letter d 73 4;letter e 146 5;letter f 292 6;letter g 84 7;"
            + "letter h 273 8;letter i 7 9;letter j 448 99;place 0 0;place 3 0;place 6 0;place 0 3;place 3 3;place 6 3;"
            + "place 0 6;place 4 6;word a;word b;word c;word aa;word ab;word ja;word aaa;word abc;word jai;word ha;word i;"
            + "word dad;run 0 2;run 2 1;run 3 3;run 7 1;";

    private static final String[] STATES = {"", GRID + SCRIPT, "stroke 0 0 0 3;letter z 7 99;place 0 0;word z;run 0 1;", FULL};

    private final String text;
    private final boolean hasRows;
    private TwoHands hands;
    private Plain plain;
    private int calls;
    private int wrong = 0;
    private long answers = 0;

    private GridRuns(String text, boolean hasRows) {
        this.text = text;
        this.hasRows = hasRows;
    }

    private void startAnew() {
        hands = new TwoHands();
        plain = new Plain();
        calls = 0;
        for (int i = 0; i < text.length(); i += 20) {
            int[] five = new int[5];
            for (int k = 0; k < 20; k++) {
                five[k / 4] = five[k / 4] << 8 | (i + k < text.length() ? text.charAt(i + k) : ' ');
            }
            call("feed", five);
        }
        call("tell", text.length());
        if (plain.fault != 0) {
            throw new IllegalStateException("FAULT " + plain.fault + " at " + plain.faultPlace + " of " + text);
        }
        int[][] rows = {{0, 0, 4, 0, 3, 3, 1}, {1, 1, 3, 2, 1, 0}, {2, 0, 0}};
        for (int i = 0; hasRows && i < rows.length; i++) {
            call("row", rows[i][0], rows[i][1], rows[i][2]);
            for (int place = 0; place < rows[i][2]; place++) {
                call("write", i, place, rows[i][3 + place]);
            }
        }
        call("over", 1, 0);
        call("over", 1, 3);
        call("weigh", 0, 7);
        call("hand", 0, 1);
    }

    private static Method find(Class<?> type, String name, int parameters) {
        for (Method method : type.getDeclaredMethods()) {
            if (method.getName().equals(name) && method.getParameterCount() == parameters) {
                return method;
            }
        }
        throw new IllegalStateException("there is no " + name);
    }

    private static long ask(Object object, String name, int[] numbers) {
        Object[] boxed = new Object[numbers.length];
        for (int i = 0; i < numbers.length; i++) {
            boxed[i] = numbers[i];
        }
        try {
            Method method = find(object.getClass(), name, numbers.length);
            method.setAccessible(true);
            return ((Number) method.invoke(object, boxed)).longValue();
        } catch (ReflectiveOperationException e) {
            throw new IllegalStateException(name + Arrays.toString(numbers) + " in " + object.getClass(), e);
        }
    }

    private void call(String name, int... numbers) {
        calls++;
        answers++;
        long want = ask(plain, name, numbers);
        long got = ask(hands, name, numbers);
        if (got != want) {
            wrong++;
            if (wrong < 20) {
                System.out.println(name + Arrays.toString(numbers) + " answered " + got + ", due is " + want + " after " + text);
            }
        }
    }

    private void callByGrid(String name, int[] edges, int[] numbers, int known) {
        if (known == numbers.length) {
            if (calls > CALLS) {
                compareCounts();
                startAnew();
            }
            call(name, numbers);
            return;
        }
        for (int edge : edges) {
            numbers[known] = edge;
            callByGrid(name, edges, numbers, known + 1);
        }
    }

    private void compareCounts() {
        for (int what = 0; what <= 12; what++) {
            call("count", what);
        }
        call("orders");
        call("ways");
        call("ring", 0);
        for (int stroke = 0; stroke < 6; stroke++) {
            call("stroke", stroke, 4);
            call("stroke", stroke, 8);
            call("letter", stroke, 2);
        }
        for (int row = 0; row < 4; row++) {
            call("judge", row);
            call("mending", row, 1);
        }
    }

    private long go() {
        List<Method> face = new ArrayList<>();
        for (Method method : TwoHands.class.getDeclaredMethods()) {
            if (Modifier.isPublic(method.getModifiers())) {
                face.add(method);
            }
        }
        face.sort(Comparator.comparing(Method::getName));
        for (Method method : face) {
            int[][] edges = {ONE, ONE, TWO, THREE, FIVE, FIVE};
            startAnew();
            int parameters = method.getParameterCount();
            callByGrid(method.getName(), edges[parameters], new int[parameters], 0);
            compareCounts();
        }
        return answers;
    }

    public static void main(String[] args) {
        long answers = 0;
        int wrong = 0;
        for (int i = 0; i < STATES.length; i++) {
            GridRuns runs = new GridRuns(STATES[i], i > 0);
            answers += runs.go();
            wrong += runs.wrong;
        }
        System.out.println("grid runs: " + answers + " answers, " + wrong + " not as due");
        if (wrong != 0) {
            System.exit(1);
        }
    }
}
