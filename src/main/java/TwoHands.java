/**
 * A leaf written on twice: strokes over strokes on a page of cells. What each call promises stands in
 * the project's document; the words in capitals there are the plain names of the classes and methods here.
 * Sets of strokes, letters and cells are held as bits of an int throughout.
 */
public final class TwoHands {
    public static final int NONE = -1;

    private static final int LOWER = 0;
    private static final int UPPER = 1;

    private static final int MOST_STROKES = 12;
    private static final int MOST_LONG = 9;
    private static final int MOST_LETTERS = 10;
    private static final int MOST_WEIGHT = 99;
    private static final int MOST_PLACES = 8;
    private static final int MOST_WORDS = 12;
    private static final int MOST_IN_WORD = 6;
    private static final int MOST_RUNS = 4;
    private static final int MOST_ACTS = 12;
    private static final int MOST_BYTES = 900;
    private static final int BYTES_A_FEED = 20;
    private static final int ROWS = 4;
    private static final int MOST_IN_ROW = 12;

    private static final int LEAST_SIDE = 3;
    private static final int MOST_WIDE = 24;
    private static final int MOST_HIGH = 12;
    private static final int FORM_SIDE = 3;
    private static final int FORM_CELLS = 9;
    private static final int WHOLE_FORM = 511;

    private static final int EMPTY = 0;
    private static final int SHOWN = 1;
    private static final int HIDDEN = 2;

    private static final int NO_SUCH = -2;
    private static final int BAD_NUMBER = -3;
    private static final int CANNOT_BE = -5;
    private static final int HAS_NOTHING = -6;
    private static final int NO_NUMBER = -7;
    private static final int TWO_SORTS = -8;
    private static final int NO_WAY = -9;
    private static final int TEXT_REFUSED = -30;
    /** Inside only: over() answers CANNOT_BE for it, but has to show the RING. */
    private static final int RING_COMES = -105;

    private static final int SPOILT_NOTHING = 1000;
    private static final int SPOILT_ALL = 100000;

    private static final int ACT_TOLD = 0;
    private static final int ACT_TAKEN = 1;
    private static final int ACT_HAND = 2;
    private static final int ACT_WEIGHT = 3;

    /** A step along a stroke, by its DIRECTION. */
    private static final int[] STEP_X = {1, 0, 1, -1};
    private static final int[] STEP_Y = {0, 1, 1, 1};

    private Page page;
    private Page sparePage;
    private Script script;
    private Script spareScript;
    private final Tape tape;
    private final RingShown lastRing;
    private final Acts acts;
    private final Tally tally;
    private final Sight sight;
    private final Row[] rows;
    private int lastFault;
    private int lastFaultPlace;

    public TwoHands() {
        page = new Page();
        sparePage = new Page();
        script = new Script();
        spareScript = new Script();
        tape = new Tape();
        lastRing = new RingShown();
        acts = new Acts();
        tally = new Tally();
        sight = new Sight();
        rows = new Row[ROWS];
        for (int i = 0; i < ROWS; i++) {
            rows[i] = new Row();
        }
        lastFault = 0;
        lastFaultPlace = NONE;
    }

    // ---- the text

    public int feed(int a, int b, int c, int d, int e) {
        if (tape.size + BYTES_A_FEED > MOST_BYTES) {
            return BAD_NUMBER;
        }
        tape.addInt(a);
        tape.addInt(b);
        tape.addInt(c);
        tape.addInt(d);
        tape.addInt(e);
        return tape.size;
    }

    public int tell(int n) {
        if (n < 0 || n > tape.size) {
            return BAD_NUMBER;
        }
        Reader reader = new Reader(tape, n, sparePage, spareScript, lastRing);
        reader.readText();
        tape.size = 0;
        lastFault = reader.found;
        lastFaultPlace = reader.foundAt;
        if (lastFault != 0) {
            return TEXT_REFUSED - lastFault;
        }
        takeSpareLeaf();
        return reader.lines;
    }

    private void takeSpareLeaf() {
        Page oldPage = page;
        page = sparePage;
        sparePage = oldPage;
        Script oldScript = script;
        script = spareScript;
        spareScript = oldScript;
        acts.size = 0;
        linksChanged();
    }

    public int fault(int what) {
        if (what == 0) {
            return lastFault;
        }
        return what == 1 ? lastFaultPlace : NONE;
    }

    // ---- by hand

    public int over(int a, int b) {
        int refusal = refusalOf(page, a, b);
        if (refusal == RING_COMES) {
            lastRing.show(page, a, b);
            return CANNOT_BE;
        }
        if (refusal != 0) {
            return refusal;
        }
        page.link(a, b);
        linksChanged();
        acts.add(ACT_TOLD, a, b);
        return page.twos;
    }

    public int takes(int a, int b) {
        if (!page.has(a) || !page.has(b)) {
            return NO_SUCH;
        }
        if (!page.isTold(a, b)) {
            return CANNOT_BE;
        }
        page.unlink(a, b);
        linksChanged();
        acts.add(ACT_TAKEN, a, b);
        return page.twos;
    }

    public int hand(int stroke, int hand) {
        if (!page.has(stroke)) {
            return NO_SUCH;
        }
        if (hand < NONE || hand > UPPER) {
            return BAD_NUMBER;
        }
        if (page.handLeavesNoWay(stroke, hand)) {
            return NO_WAY;
        }
        int was = page.toldHand(stroke);
        page.setHand(stroke, hand);
        sight.stale = true;
        acts.add(ACT_HAND, stroke, was);
        return was + 1;
    }

    public int weigh(int letter, int weight) {
        if (!script.hasLetter(letter)) {
            return NO_SUCH;
        }
        if (weight < 1 || weight > MOST_WEIGHT) {
            return BAD_NUMBER;
        }
        int was = script.weight[letter];
        script.weight[letter] = weight;
        acts.add(ACT_WEIGHT, letter, was);
        return was;
    }

    public int undo() {
        if (acts.size == 0) {
            return CANNOT_BE;
        }
        int latest = acts.takeLatest();
        takeBack(acts.kind[latest], acts.first[latest], acts.second[latest]);
        return acts.size;
    }

    private void takeBack(int kind, int first, int second) {
        switch (kind) {
            case ACT_TOLD:
                page.unlink(first, second);
                linksChanged();
                break;
            case ACT_TAKEN:
                page.link(first, second);
                linksChanged();
                break;
            case ACT_HAND:
                page.setHand(first, second);
                sight.stale = true;
                break;
            default:
                script.weight[first] = second;
                break;
        }
    }

    /** 0, if the first stroke can be told OVER the second one there. */
    private static int refusalOf(Page leaf, int a, int b) {
        if (!leaf.has(a) || !leaf.has(b)) {
            return NO_SUCH;
        }
        if (!leaf.canBeTold(a, b)) {
            return CANNOT_BE;
        }
        if (leaf.isOver(b, a)) {
            return RING_COMES;
        }
        return leaf.linkLeavesNoWay(a, b) ? NO_WAY : 0;
    }

    private void linksChanged() {
        tally.stale = true;
        tally.detailStale = true;
        sight.stale = true;
    }

    // ---- strokes

    public int stroke(int stroke, int what) {
        if (!page.has(stroke)) {
            return NO_SUCH;
        }
        switch (what) {
            case 0:
                return page.x[stroke];
            case 1:
                return page.y[stroke];
            case 2:
                return page.direction[stroke];
            case 3:
                return page.length[stroke];
            case 4:
                return page.toldHand(stroke) + 1;
            case 5:
                return page.mustOf(stroke);
            case 6:
                return page.layerOf(stroke);
            case 7:
                return page.crosses[stroke];
            case 8:
                return page.below[stroke];
            case 9:
                return page.above[stroke];
            default:
                return NO_SUCH;
        }
    }

    public int crossing(int a, int b) {
        if (!page.hasTwo(a, b)) {
            return NO_SUCH;
        }
        return page.firstCommonCell(a, b);
    }

    public int ring(int i) {
        if (i < 0) {
            return BAD_NUMBER;
        }
        return i < lastRing.size ? lastRing.strokes[i] : NONE;
    }

    public int order(int i) {
        if (i < 0) {
            return BAD_NUMBER;
        }
        return i < page.strokes ? page.strokeInOrder(i) : NONE;
    }

    public long orders() {
        tally.refresh(page);
        return tally.all;
    }

    public long ahead(int a, int b) {
        if (!page.hasTwo(a, b)) {
            return NO_SUCH;
        }
        tally.refreshDetail(page);
        return tally.comesAhead(a, b);
    }

    public int ways() {
        tally.refresh(page);
        return tally.countWays(page);
    }

    public int layers() {
        return page.countLayers();
    }

    // ---- what shows

    public int top(int x, int y) {
        if (!page.hasCell(x, y)) {
            return NO_SUCH;
        }
        return page.topOf(page.strokesAt(x, y));
    }

    public int seen(int x, int y) {
        if (!page.hasCell(x, y)) {
            return NO_SUCH;
        }
        return page.seenOf(page.strokesAt(x, y), page.mustBeLower(page.lower));
    }

    public int shows(int place, int what) {
        if (!script.hasPlace(place) || what < EMPTY || what > HIDDEN) {
            return NO_SUCH;
        }
        sight.refresh(page, script);
        int look = sight.looks[place];
        if (what == EMPTY) {
            return emptyCells(look);
        }
        return what == SHOWN ? shownCells(look) : hiddenCells(look);
    }

    public int fits(int place) {
        if (!script.hasPlace(place)) {
            return NO_SUCH;
        }
        sight.refresh(page, script);
        return sight.fitting[place];
    }

    public int sure(int place) {
        if (!script.hasPlace(place)) {
            return NO_SUCH;
        }
        sight.refresh(page, script);
        return sight.certain[place];
    }

    public int odds(int place, int letter) {
        if (!script.hasPlace(place) || !script.hasLetter(letter)) {
            return NO_SUCH;
        }
        sight.refresh(page, script);
        return bitsOf(script.share(letter, sight.certain[place]));
    }

    public int guess(int place) {
        if (!script.hasPlace(place)) {
            return NO_SUCH;
        }
        sight.refresh(page, script);
        return script.heaviestOf(sight.certain[place]);
    }

    public int words(int run, int k) {
        if (!script.hasRun(run)) {
            return NO_SUCH;
        }
        if (k < NONE) {
            return BAD_NUMBER;
        }
        sight.refresh(page, script);
        int fitting = 0;
        for (int word = 0; word < script.words; word++) {
            if (script.wordFits(word, run, sight.fitting)) {
                if (fitting == k) {
                    return word;
                }
                fitting++;
            }
        }
        return k == NONE ? fitting : NONE;
    }

    public int likely(int run) {
        if (!script.hasRun(run)) {
            return NO_SUCH;
        }
        sight.refresh(page, script);
        int best = NONE;
        long most = 0;
        for (int word = 0; word < script.words; word++) {
            if (script.wordFits(word, run, sight.fitting) && script.weightOfWord(word) > most) {
                best = word;
                most = script.weightOfWord(word);
            }
        }
        return best;
    }

    public int reads(int i) {
        if (i < NONE) {
            return BAD_NUMBER;
        }
        if (i == NONE) {
            return script.places;
        }
        if (i >= script.places) {
            return NONE;
        }
        sight.refresh(page, script);
        return script.signFor(sight.certain[i]);
    }

    public int letter(int letter, int what) {
        if (!script.hasLetter(letter)) {
            return NO_SUCH;
        }
        switch (what) {
            case 0:
                return script.name[letter] - 'a' + 1;
            case 1:
                return script.form[letter];
            case 2:
                return script.weight[letter];
            case 3:
                sight.refresh(page, script);
                return sight.placesThatFit(letter, script.places);
            default:
                return NO_SUCH;
        }
    }

    /** A look at a PLACE: its empty cells in the low nine bits, its shown ones in the next nine. */
    private static int emptyCells(int look) {
        return look & WHOLE_FORM;
    }

    private static int shownCells(int look) {
        return (look >> FORM_CELLS) & WHOLE_FORM;
    }

    private static int hiddenCells(int look) {
        return WHOLE_FORM & ~(emptyCells(look) | shownCells(look));
    }

    /**
     * The bits of a float from 0 to 1, by hand, as Float's own function is no part of the language here:
     * doubling is exact, so nothing is lost on the way to the mantissa.
     */
    private static int bitsOf(float number) {
        if (!(number > 0f)) {
            return 0;
        }
        float mantissa = number;
        int exponent = 127;
        for (int i = 0; i < 126 && mantissa < 1f; i++) {
            mantissa = mantissa * 2f;
            exponent--;
        }
        return (exponent << 23) + (int) ((mantissa - 1f) * 8388608f);
    }

    // ---- what if

    public long asking(int what) {
        if (what < 0 || what > 2) {
            return NO_SUCH;
        }
        tally.refreshDetail(page);
        int bestTwo = tally.bestToAsk(page);
        if (bestTwo == NONE) {
            return NONE;
        }
        int a = bestTwo / MOST_STROKES;
        int b = bestTwo % MOST_STROKES;
        if (what == 2) {
            return tally.asked(a, b);
        }
        return what == 0 ? a : b;
    }

    public int loose(int stroke) {
        if (!page.has(stroke)) {
            return NO_SUCH;
        }
        return countLoose(stroke);
    }

    private int countLoose(int stroke) {
        sight.refresh(page, script);
        int mustBeLower = page.mustBeLower(page.lower);
        int freed = 0;
        for (int place = 0; place < script.places; place++) {
            int look = page.lookAt(script.placeX[place], script.placeY[place], mustBeLower, 1 << stroke);
            freed += Integer.bitCount(hiddenCells(sight.looks[place]) & ~hiddenCells(look));
        }
        return freed;
    }

    public int scrape() {
        int best = NONE;
        int most = 0;
        for (int stroke = 0; stroke < page.strokes; stroke++) {
            int freed = countLoose(stroke);
            if (freed > most) {
                best = stroke;
                most = freed;
            }
        }
        return best;
    }

    public int clearer(int place, int stroke) {
        if (!script.hasPlace(place) || !page.has(stroke)) {
            return NO_SUCH;
        }
        int mustBeLower = page.mustBeLower(page.lower);
        int look = page.lookAt(script.placeX[place], script.placeY[place], mustBeLower, 1 << stroke);
        return Integer.bitCount(script.lettersThatFit(look));
    }

    public long span(int stroke, int what) {
        if (!page.has(stroke)) {
            return NO_SUCH;
        }
        switch (what) {
            case 0:
                return Integer.bitCount(page.below[stroke]);
            case 1:
                return page.strokes - 1 - Integer.bitCount(page.above[stroke]);
            case 2:
                tally.refreshDetail(page);
                return tally.meanPlace(stroke);
            default:
                return NO_SUCH;
        }
    }

    public int paired(int a, int b) {
        if (!page.hasTwo(a, b)) {
            return NO_SUCH;
        }
        return page.hasBetween(a, b) ? 0 : 1;
    }

    public int likelihood(int run, int word) {
        if (!script.hasRun(run) || !script.hasWord(word)) {
            return NO_SUCH;
        }
        sight.refresh(page, script);
        if (!script.wordFits(word, run, sight.fitting)) {
            return 0;
        }
        float product = 1f;
        int first = script.runFirst[run];
        for (int i = 0; i < script.wordLength[word]; i++) {
            product = product * script.share(script.letterOf(word, i), sight.certain[first + i]);
        }
        return bitsOf(product);
    }

    public int spoilt(int stroke, int hand) {
        if (!page.has(stroke)) {
            return NO_SUCH;
        }
        if (hand != LOWER && hand != UPPER) {
            return BAD_NUMBER;
        }
        if (page.handLeavesNoWay(stroke, hand)) {
            return SPOILT_ALL;
        }
        int bit = 1 << stroke;
        int lowerThen = hand == LOWER ? page.lower | bit : page.lower & ~bit;
        int now = countFitting(page.mustBeLower(page.lower));
        return SPOILT_NOTHING + now - countFitting(page.mustBeLower(lowerThen));
    }

    private int countFitting(int mustBeLower) {
        int fitting = 0;
        for (int place = 0; place < script.places; place++) {
            int look = page.lookAt(script.placeX[place], script.placeY[place], mustBeLower, 0);
            fitting += Integer.bitCount(script.lettersThatFit(look));
        }
        return fitting;
    }

    // ---- rows

    public int row(int row, int sort, int n) {
        if (!isRow(row)) {
            return NO_SUCH;
        }
        if (sort < 0 || sort > 1 || n < 0 || n > MOST_IN_ROW) {
            return BAD_NUMBER;
        }
        rows[row].start(sort, n);
        return 0;
    }

    public int write(int row, int place, int v) {
        if (!isRow(row)) {
            return NO_SUCH;
        }
        Row target = rows[row];
        if (!target.hasSomething) {
            return HAS_NOTHING;
        }
        if (place < 0 || place >= target.size) {
            return NO_NUMBER;
        }
        target.numbers[place] = target.cut(v);
        return target.numbers[place];
    }

    public int paste(int from, int place, int to, int at, int n) {
        if (!isRow(from) || !isRow(to)) {
            return NO_SUCH;
        }
        Row source = rows[from];
        Row target = rows[to];
        if (!source.hasSomething || !target.hasSomething) {
            return HAS_NOTHING;
        }
        if (source.sort != target.sort) {
            return TWO_SORTS;
        }
        if (!source.hasPart(place, n) || !target.hasPart(at, n)) {
            return NO_NUMBER;
        }
        System.arraycopy(source.numbers, place, target.numbers, at, n);
        return 0;
    }

    public long mending(int row, int what) {
        if (!isRow(row) || what < 0 || what > 1) {
            return NO_SUCH;
        }
        if (!rows[row].hasSomething) {
            return HAS_NOTHING;
        }
        int leftOut = mendSparePage(rows[row]);
        if (what == 1) {
            return leftOut;
        }
        return tally.countOnceFor(sparePage);
    }

    /** Tells a copy of the strokes what the ROW says: which twos were left out, as bits. */
    private int mendSparePage(Row told) {
        sparePage.copyLinksOf(page);
        int leftOut = 0;
        for (int two = 0; 2 * two + 1 < told.size; two++) {
            int a = told.numbers[2 * two];
            int b = told.numbers[2 * two + 1];
            if (refusalOf(sparePage, a, b) == 0) {
                sparePage.link(a, b);
            } else {
                leftOut |= 1 << two;
            }
        }
        return leftOut;
    }

    public int judge(int row) {
        if (!isRow(row)) {
            return NO_SUCH;
        }
        Row said = rows[row];
        if (!said.hasSomething) {
            return HAS_NOTHING;
        }
        sight.refresh(page, script);
        int right = 0;
        for (int i = 0; i < said.size && i < script.places; i++) {
            int letter = said.numbers[i];
            if (!script.hasLetter(letter) || (sight.certain[i] >> letter & 1) == 0) {
                break;
            }
            right++;
        }
        return right;
    }

    public int count(int what) {
        switch (what) {
            case 0:
                return page.strokes;
            case 1:
                return script.letters;
            case 2:
                return script.places;
            case 3:
                return script.words;
            case 4:
                return script.runs;
            case 5:
                return page.twos;
            case 6:
                return acts.size;
            case 7:
                return tape.size;
            case 8:
                return page.wide;
            case 9:
                return page.high;
            case 10:
                return countHidden();
            case 11:
                return page.countCrossings();
            case 12:
                return countRows();
            default:
                return NONE;
        }
    }

    private int countHidden() {
        sight.refresh(page, script);
        int hidden = 0;
        for (int place = 0; place < script.places; place++) {
            hidden += Integer.bitCount(hiddenCells(sight.looks[place]));
        }
        return hidden;
    }

    private int countRows() {
        int filled = 0;
        for (int i = 0; i < ROWS; i++) {
            if (rows[i].hasSomething) {
                filled++;
            }
        }
        return filled;
    }

    private static boolean isRow(int row) {
        return row >= 0 && row < ROWS;
    }

    /** The page of cells with its strokes, what is told OVER what, and the HANDS. */
    private static final class Page {
        int wide = LEAST_SIDE;
        int high = LEAST_SIDE;
        int strokes = 0;
        /** How many twos are told OVER. */
        int twos = 0;
        /** Strokes that are told lower, told upper. */
        int lower = 0;
        int upper = 0;
        final int[] x = new int[MOST_STROKES];
        final int[] y = new int[MOST_STROKES];
        final int[] direction = new int[MOST_STROKES];
        final int[] length = new int[MOST_STROKES];
        final int[] crosses = new int[MOST_STROKES];
        /** Strokes that each one is told OVER; below and above: by chains. */
        final int[] told = new int[MOST_STROKES];
        final int[] below = new int[MOST_STROKES];
        final int[] above = new int[MOST_STROKES];
        /** The strokes at each cell. */
        final int[] cells = new int[MOST_WIDE * MOST_HIGH];

        void clear() {
            wide = LEAST_SIDE;
            high = LEAST_SIDE;
            strokes = 0;
            twos = 0;
            lower = 0;
            upper = 0;
            for (int cell = 0; cell < cells.length; cell++) {
                cells[cell] = 0;
            }
        }

        /** What mending() needs of the strokes: where they are is told by what they cross. */
        void copyLinksOf(Page other) {
            strokes = other.strokes;
            lower = other.lower;
            upper = other.upper;
            for (int i = 0; i < MOST_STROKES; i++) {
                crosses[i] = other.crosses[i];
                told[i] = other.told[i];
                below[i] = other.below[i];
                above[i] = other.above[i];
            }
        }

        boolean has(int stroke) {
            return stroke >= 0 && stroke < strokes;
        }

        boolean hasTwo(int a, int b) {
            return has(a) && has(b) && a != b;
        }

        boolean hasCell(int cellX, int cellY) {
            return cellX >= 0 && cellX < wide && cellY >= 0 && cellY < high;
        }

        int strokesAt(int cellX, int cellY) {
            return hasCell(cellX, cellY) ? cells[cellY * MOST_WIDE + cellX] : 0;
        }

        /** Whether a stroke from a cell of the page on ends on the page, too. */
        boolean hasRoomFor(int cellX, int cellY, int way, int cellsLong) {
            return hasCell(cellX + STEP_X[way] * (cellsLong - 1), cellY + STEP_Y[way] * (cellsLong - 1));
        }

        /** The caller has seen that there is room on the page and among the strokes. */
        void addStroke(int cellX, int cellY, int way, int cellsLong) {
            int stroke = strokes;
            x[stroke] = cellX;
            y[stroke] = cellY;
            direction[stroke] = way;
            length[stroke] = cellsLong;
            told[stroke] = 0;
            below[stroke] = 0;
            above[stroke] = 0;
            int met = 0;
            for (int i = 0; i < cellsLong; i++) {
                int cell = (cellY + STEP_Y[way] * i) * MOST_WIDE + cellX + STEP_X[way] * i;
                met |= cells[cell];
                cells[cell] |= 1 << stroke;
            }
            crosses[stroke] = met;
            for (int other = 0; other < stroke; other++) {
                if ((met >> other & 1) != 0) {
                    crosses[other] |= 1 << stroke;
                }
            }
            strokes++;
        }

        int firstCommonCell(int a, int b) {
            for (int i = 0; i < length[a]; i++) {
                int cellX = x[a] + STEP_X[direction[a]] * i;
                int cellY = y[a] + STEP_Y[direction[a]] * i;
                if ((strokesAt(cellX, cellY) >> b & 1) != 0) {
                    return 100 * cellY + cellX;
                }
            }
            return NONE;
        }

        int countCrossings() {
            int ends = 0;
            for (int stroke = 0; stroke < strokes; stroke++) {
                ends += Integer.bitCount(crosses[stroke]);
            }
            return ends / 2;
        }

        boolean isCrossing(int a, int b) {
            return (crosses[a] >> b & 1) != 0;
        }

        boolean isTold(int a, int b) {
            return (told[a] >> b & 1) != 0;
        }

        boolean isOver(int a, int b) {
            return (below[a] >> b & 1) != 0;
        }

        /** RINGS and HANDS aside. */
        boolean canBeTold(int a, int b) {
            return a != b && isCrossing(a, b) && !isTold(a, b);
        }

        boolean linkLeavesNoWay(int a, int b) {
            return (lower & (above[a] | 1 << a)) != 0 && (upper & (below[b] | 1 << b)) != 0;
        }

        void link(int a, int b) {
            told[a] |= 1 << b;
            twos++;
            addChains(a, b);
        }

        /** Chains can't be taken away one by one, as others may lead the same way: all are made anew. */
        void unlink(int a, int b) {
            told[a] &= ~(1 << b);
            twos--;
            for (int stroke = 0; stroke < strokes; stroke++) {
                below[stroke] = 0;
                above[stroke] = 0;
            }
            for (int first = 0; first < strokes; first++) {
                for (int second = 0; second < strokes; second++) {
                    if (isTold(first, second)) {
                        addChains(first, second);
                    }
                }
            }
        }

        private void addChains(int a, int b) {
            int down = below[b] | 1 << b;
            int up = above[a] | 1 << a;
            for (int stroke = 0; stroke < strokes; stroke++) {
                if ((up >> stroke & 1) != 0) {
                    below[stroke] |= down;
                }
                if ((down >> stroke & 1) != 0) {
                    above[stroke] |= up;
                }
            }
        }

        /** Whether some stroke is OVER the one and below the other one. */
        boolean hasBetween(int a, int b) {
            return (below[a] & above[b]) != 0 || (below[b] & above[a]) != 0;
        }

        int toldHand(int stroke) {
            if ((lower >> stroke & 1) != 0) {
                return LOWER;
            }
            return (upper >> stroke & 1) != 0 ? UPPER : NONE;
        }

        void setHand(int stroke, int hand) {
            int bit = 1 << stroke;
            lower &= ~bit;
            upper &= ~bit;
            if (hand == LOWER) {
                lower |= bit;
            }
            if (hand == UPPER) {
                upper |= bit;
            }
        }

        boolean handLeavesNoWay(int stroke, int hand) {
            if (hand == LOWER) {
                return (upper & below[stroke]) != 0;
            }
            return hand == UPPER && (lower & above[stroke]) != 0;
        }

        /** All that a lower stroke is OVER is lower, too; nothing else is bound to be. */
        int mustBeLower(int toldLower) {
            int bound = toldLower;
            for (int stroke = 0; stroke < strokes; stroke++) {
                if ((toldLower >> stroke & 1) != 0) {
                    bound |= below[stroke];
                }
            }
            return bound;
        }

        int mustOf(int stroke) {
            if ((lower & (above[stroke] | 1 << stroke)) != 0) {
                return LOWER;
            }
            return (upper & (below[stroke] | 1 << stroke)) != 0 ? UPPER : 2;
        }

        /** The strokes that are not there yet and are OVER none but those that are. */
        int readyAfter(int there) {
            int ready = 0;
            for (int stroke = 0; stroke < strokes; stroke++) {
                if ((there >> stroke & 1) == 0 && (below[stroke] & ~there) == 0) {
                    ready |= 1 << stroke;
                }
            }
            return ready;
        }

        int strokeInOrder(int place) {
            int there = 0;
            for (int i = 0; i < place; i++) {
                there |= Integer.lowestOneBit(readyAfter(there));
            }
            return Integer.numberOfTrailingZeros(readyAfter(there));
        }

        int layerOf(int stroke) {
            int there = 0;
            int layer = 0;
            for (int i = 0; i < strokes; i++) {
                there |= readyAfter(there);
                if ((there >> stroke & 1) != 0) {
                    break;
                }
                layer++;
            }
            return layer;
        }

        int countLayers() {
            int most = 0;
            for (int stroke = 0; stroke < strokes; stroke++) {
                most = Math.max(most, layerOf(stroke) + 1);
            }
            return most;
        }

        int topOf(int there) {
            for (int stroke = 0; stroke < strokes; stroke++) {
                boolean isThere = (there >> stroke & 1) != 0;
                if (isThere && (there & ~(below[stroke] | 1 << stroke)) == 0) {
                    return stroke;
                }
            }
            return NONE;
        }

        int seenOf(int there, int mustBeLower) {
            if (there == 0) {
                return EMPTY;
            }
            int highest = topOf(there);
            return highest != NONE && (mustBeLower >> highest & 1) != 0 ? SHOWN : HIDDEN;
        }

        /** The nine cells from a cell on, without the scraped strokes, as emptyCells() and shownCells() take it. */
        int lookAt(int cellX, int cellY, int mustBeLower, int scraped) {
            int look = 0;
            for (int i = 0; i < FORM_CELLS; i++) {
                int there = strokesAt(cellX + i % FORM_SIDE, cellY + i / FORM_SIDE) & ~scraped;
                int sight = seenOf(there, mustBeLower);
                if (sight == EMPTY) {
                    look |= 1 << i;
                }
                if (sight == SHOWN) {
                    look |= 1 << (i + FORM_CELLS);
                }
            }
            return look;
        }
    }

    /** LETTERS, PLACES, WORDS and RUNS. */
    private static final class Script {
        int letters = 0;
        int places = 0;
        int words = 0;
        int runs = 0;
        final int[] name = new int[MOST_LETTERS];
        final int[] form = new int[MOST_LETTERS];
        final int[] weight = new int[MOST_LETTERS];
        final int[] placeX = new int[MOST_PLACES];
        final int[] placeY = new int[MOST_PLACES];
        final int[] placeRun = new int[MOST_PLACES];
        final int[] wordLength = new int[MOST_WORDS];
        final int[] wordLetters = new int[MOST_WORDS * MOST_IN_WORD];
        final int[] runFirst = new int[MOST_RUNS];
        final int[] runLength = new int[MOST_RUNS];

        void clear() {
            letters = 0;
            places = 0;
            words = 0;
            runs = 0;
        }

        boolean hasLetter(int letter) {
            return letter >= 0 && letter < letters;
        }

        boolean hasPlace(int place) {
            return place >= 0 && place < places;
        }

        boolean hasWord(int word) {
            return word >= 0 && word < words;
        }

        boolean hasRun(int run) {
            return run >= 0 && run < runs;
        }

        int letterNamed(int sign) {
            for (int letter = 0; letter < letters; letter++) {
                if (name[letter] == sign) {
                    return letter;
                }
            }
            return NONE;
        }

        void addLetter(int sign, int cells, int heavy) {
            name[letters] = sign;
            form[letters] = cells;
            weight[letters] = heavy;
            letters++;
        }

        void addPlace(int cellX, int cellY) {
            placeX[places] = cellX;
            placeY[places] = cellY;
            placeRun[places] = NONE;
            places++;
        }

        boolean isFree(int first, int size) {
            for (int place = first; place < first + size; place++) {
                if (placeRun[place] != NONE) {
                    return false;
                }
            }
            return true;
        }

        void addRun(int first, int size) {
            runFirst[runs] = first;
            runLength[runs] = size;
            for (int place = first; place < first + size; place++) {
                placeRun[place] = runs;
            }
            runs++;
        }

        int letterOf(int word, int i) {
            return wordLetters[word * MOST_IN_WORD + i];
        }

        int lettersThatFit(int look) {
            int empty = emptyCells(look);
            int shown = shownCells(look);
            int fitting = 0;
            for (int letter = 0; letter < letters; letter++) {
                if ((form[letter] & empty) == 0 && (shown & ~form[letter]) == 0) {
                    fitting |= 1 << letter;
                }
            }
            return fitting;
        }

        boolean wordFits(int word, int run, int[] fitting) {
            if (wordLength[word] != runLength[run]) {
                return false;
            }
            for (int i = 0; i < runLength[run]; i++) {
                if ((fitting[runFirst[run] + i] >> letterOf(word, i) & 1) == 0) {
                    return false;
                }
            }
            return true;
        }

        /** The letters that a PLACE of a RUN has in the words that fit that. */
        int lettersOfWords(int place, int[] fitting) {
            int run = placeRun[place];
            int there = 0;
            for (int word = 0; word < words; word++) {
                if (wordFits(word, run, fitting)) {
                    there |= 1 << letterOf(word, place - runFirst[run]);
                }
            }
            return there;
        }

        long weightOfWord(int word) {
            long product = 1;
            for (int i = 0; i < wordLength[word]; i++) {
                product *= weight[letterOf(word, i)];
            }
            return product;
        }

        int heaviestOf(int set) {
            int best = NONE;
            for (int letter = 0; letter < letters; letter++) {
                boolean isThere = (set >> letter & 1) != 0;
                if (isThere && (best == NONE || weight[letter] > weight[best])) {
                    best = letter;
                }
            }
            return best;
        }

        /** WEIGHT of a letter by those of the set; 0, if it is none of that. */
        float share(int letter, int set) {
            if ((set >> letter & 1) == 0) {
                return 0f;
            }
            int total = 0;
            for (int other = 0; other < letters; other++) {
                if ((set >> other & 1) != 0) {
                    total += weight[other];
                }
            }
            return total > 0 ? (float) weight[letter] / (float) total : 0f;
        }

        int signFor(int set) {
            if (set == 0) {
                return '?';
            }
            return Integer.bitCount(set) == 1 ? name[Integer.numberOfTrailingZeros(set)] : '.';
        }
    }

    /** What shows in the PLACES, kept till strokes or hands change. */
    private static final class Sight {
        boolean stale = true;
        final int[] looks = new int[MOST_PLACES];
        final int[] fitting = new int[MOST_PLACES];
        /** SURE, place by place. */
        final int[] certain = new int[MOST_PLACES];

        void refresh(Page page, Script script) {
            if (!stale) {
                return;
            }
            stale = false;
            int mustBeLower = page.mustBeLower(page.lower);
            for (int place = 0; place < script.places; place++) {
                looks[place] = page.lookAt(script.placeX[place], script.placeY[place], mustBeLower, 0);
                fitting[place] = script.lettersThatFit(looks[place]);
            }
            for (int place = 0; place < script.places; place++) {
                boolean isInRun = script.placeRun[place] != NONE;
                certain[place] = isInRun ? script.lettersOfWords(place, fitting) : fitting[place];
            }
        }

        int placesThatFit(int letter, int places) {
            int found = 0;
            for (int place = 0; place < places; place++) {
                found += fitting[place] >> letter & 1;
            }
            return found;
        }
    }

    /**
     * ORDERS, counted over the sets of strokes that can have come first: 12 strokes have at most
     * 479001600 rows, so an int holds each number.
     */
    private static final class Tally {
        /** Whether ORDERS, and what is counted beside them, are to be counted anew. */
        boolean stale = true;
        boolean detailStale = true;
        int all = 1;
        /** In how many ways a set can have come first, and what is left can follow it. */
        final int[] rowsTo = new int[1 << MOST_STROKES];
        final int[] rowsFrom = new int[1 << MOST_STROKES];
        /** ORDERS in which the one (times 12) comes ahead of the other one. */
        final int[] earlier = new int[MOST_STROKES * MOST_STROKES];
        final long[] placesTogether = new long[MOST_STROKES];

        void refresh(Page page) {
            if (stale) {
                all = countRowsTo(page);
                stale = false;
            }
        }

        /** For a page that isn't kept: the table is of no use for the next call then. */
        int countOnceFor(Page page) {
            stale = true;
            return countRowsTo(page);
        }

        private int countRowsTo(Page page) {
            int whole = (1 << page.strokes) - 1;
            for (int set = 1; set <= whole; set++) {
                rowsTo[set] = 0;
            }
            rowsTo[0] = 1;
            for (int set = 0; set < whole; set++) {
                if (rowsTo[set] != 0) {
                    addOneStroke(page, set);
                }
            }
            return rowsTo[whole];
        }

        private void addOneStroke(Page page, int set) {
            for (int next = 0; next < page.strokes; next++) {
                if ((set >> next & 1) == 0 && (page.below[next] & ~set) == 0) {
                    rowsTo[set | 1 << next] += rowsTo[set];
                }
            }
        }

        void refreshDetail(Page page) {
            refresh(page);
            if (!detailStale) {
                return;
            }
            detailStale = false;
            for (int i = 0; i < earlier.length; i++) {
                earlier[i] = 0;
            }
            for (int i = 0; i < placesTogether.length; i++) {
                placesTogether[i] = 0;
            }
            int whole = (1 << page.strokes) - 1;
            rowsFrom[whole] = 1;
            for (int set = whole - 1; set >= 0; set--) {
                rowsFrom[set] = 0;
                if (rowsTo[set] != 0) {
                    countFrom(page, set);
                }
            }
        }

        private void countFrom(Page page, int set) {
            for (int next = 0; next < page.strokes; next++) {
                if ((set >> next & 1) == 0 && (page.below[next] & ~set) == 0) {
                    int after = rowsFrom[set | 1 << next];
                    rowsFrom[set] += after;
                    int through = rowsTo[set] * after;
                    placesTogether[next] += (long) Integer.bitCount(set) * through;
                    addEarlier(set, next, through);
                }
            }
        }

        private void addEarlier(int set, int next, int through) {
            for (int first = 0; first < MOST_STROKES; first++) {
                if ((set >> first & 1) != 0) {
                    earlier[first * MOST_STROKES + next] += through;
                }
            }
        }

        int comesAhead(int a, int b) {
            return earlier[a * MOST_STROKES + b];
        }

        /** One told OVER the other leaves just the rows in which it comes behind that. */
        int asked(int a, int b) {
            return Math.max(comesAhead(a, b), comesAhead(b, a));
        }

        /** The two as 12 times the first and the second; NONE, if nothing is to ask. */
        int bestToAsk(Page page) {
            int best = NONE;
            int least = 0;
            for (int a = 0; a < page.strokes; a++) {
                for (int b = a + 1; b < page.strokes; b++) {
                    boolean isOpen = page.isCrossing(a, b) && !page.isOver(a, b) && !page.isOver(b, a);
                    if (isOpen && (best == NONE || asked(a, b) < least)) {
                        best = a * MOST_STROKES + b;
                        least = asked(a, b);
                    }
                }
            }
            return best;
        }

        long meanPlace(int stroke) {
            return all > 0 ? 1000 * placesTogether[stroke] / all : 0;
        }

        /** The lower strokes of a WAY are a set that can have come first. */
        int countWays(Page page) {
            int found = 0;
            int whole = (1 << page.strokes) - 1;
            for (int set = 0; set <= whole; set++) {
                if (rowsTo[set] != 0 && (page.lower & ~set) == 0 && (page.upper & set) == 0) {
                    found++;
                }
            }
            return found;
        }
    }

    /** The latest RING that was refused. */
    private static final class RingShown {
        int size = 0;
        final int[] strokes = new int[MOST_STROKES];
        /** The strokes that are so many steps OVER the ring's first one. */
        private final int[] steps = new int[MOST_STROKES];

        /** The caller has seen that the second stroke is OVER the first one. */
        void show(Page page, int a, int b) {
            int far = countSteps(page, a, b);
            strokes[0] = a;
            strokes[1] = b;
            size = 2;
            for (int left = far - 1; left > 0; left--) {
                int next = page.told[strokes[size - 1]] & steps[left];
                if (next == 0) {
                    break;
                }
                strokes[size] = Integer.numberOfTrailingZeros(next);
                size++;
            }
        }

        private int countSteps(Page page, int a, int b) {
            int reached = 1 << a;
            steps[0] = reached;
            int far = 0;
            for (int i = 1; i < MOST_STROKES && (reached >> b & 1) == 0; i++) {
                steps[i] = 0;
                for (int stroke = 0; stroke < page.strokes; stroke++) {
                    if ((reached >> stroke & 1) == 0 && (page.told[stroke] & steps[i - 1]) != 0) {
                        steps[i] |= 1 << stroke;
                    }
                }
                reached |= steps[i];
                far = i;
            }
            return far;
        }
    }

    /** The latest ACTS, the oldest of them giving way. */
    private static final class Acts {
        int size = 0;
        private int next = 0;
        final int[] kind = new int[MOST_ACTS];
        final int[] first = new int[MOST_ACTS];
        final int[] second = new int[MOST_ACTS];

        void add(int what, int a, int b) {
            kind[next] = what;
            first[next] = a;
            second[next] = b;
            next = (next + 1) % MOST_ACTS;
            size = Math.min(size + 1, MOST_ACTS);
        }

        /** The caller has seen that there is one: where it stands. */
        int takeLatest() {
            next = (next + MOST_ACTS - 1) % MOST_ACTS;
            size--;
            return next;
        }
    }

    /** A ROW of numbers. */
    private static final class Row {
        boolean hasSomething = false;
        int sort = 0;
        int size = 0;
        final int[] numbers = new int[MOST_IN_ROW];

        void start(int newSort, int newSize) {
            hasSomething = true;
            sort = newSort;
            size = newSize;
            for (int i = 0; i < MOST_IN_ROW; i++) {
                numbers[i] = 0;
            }
        }

        int cut(int number) {
            return sort == 0 ? (short) number : number;
        }

        /** Asked without a sum, which could wrap around. */
        boolean hasPart(int place, int n) {
            return n >= 0 && n <= size && place >= 0 && place <= size - n;
        }
    }

    private static final class Tape {
        int size = 0;
        final int[] bytes = new int[MOST_BYTES];

        /** The caller has seen that there is room. */
        void addInt(int four) {
            for (int shift = 24; shift >= 0; shift -= 8) {
                bytes[size] = four >> shift & 255;
                size++;
            }
        }
    }

    /** Reads THE TEXT from the tape, up to the first FAULT. */
    private static final class Reader {
        private static final int END = 0;
        private static final int NUMBER = 1;
        private static final int WORD = 2;
        private static final int SIGN = 3;

        private static final int MISPLACED = 1;
        private static final int OUT_OF_BOUNDS = 2;
        private static final int TOLD_WRONG = 3;
        private static final int TOO_MANY = 4;
        private static final int RING = 5;
        private static final int HANDLESS = 6;

        /** The FAULT, 0 for none, and its place. */
        int found = 0;
        int foundAt = NONE;
        int lines = 0;
        private final Tape tape;
        private final int end;
        private final Page page;
        private final Script script;
        private final RingShown lastRing;
        private int position = 0;
        /** The piece that was read last: what it is, where it begins, how long it is, its number. */
        private int piece = END;
        private int start = 0;
        private int size = 0;
        private int value = 0;

        Reader(Tape from, int bytes, Page toPage, Script toScript, RingShown toRing) {
            tape = from;
            end = bytes;
            page = toPage;
            script = toScript;
            lastRing = toRing;
        }

        void readText() {
            page.clear();
            script.clear();
            readPiece();
            for (int i = 0; i < MOST_BYTES && piece != END; i++) {
                if (!readLine() || !readSemicolon()) {
                    return;
                }
                lines++;
                readPiece();
            }
        }

        private void readPiece() {
            while (position < end && tape.bytes[position] == ' ') {
                position++;
            }
            start = position;
            if (position >= end) {
                piece = END;
            } else if (isDigit(tape.bytes[position])) {
                readDigits();
            } else if (isSmall(tape.bytes[position])) {
                readSmall();
            } else {
                piece = SIGN;
                position++;
            }
            size = position - start;
        }

        /** A number of too many digits becomes one that is out of all bounds. */
        private void readDigits() {
            piece = NUMBER;
            value = 0;
            while (position < end && isDigit(tape.bytes[position])) {
                boolean isLong = position - start >= 4;
                value = isLong ? NONE : 10 * value + tape.bytes[position] - '0';
                position++;
            }
        }

        private void readSmall() {
            piece = WORD;
            while (position < end && isSmall(tape.bytes[position])) {
                position++;
            }
        }

        private static boolean isDigit(int sign) {
            return sign >= '0' && sign <= '9';
        }

        private static boolean isSmall(int sign) {
            return sign >= 'a' && sign <= 'z';
        }

        private boolean isNamed(String word) {
            if (piece != WORD || size != word.length()) {
                return false;
            }
            for (int i = 0; i < size; i++) {
                if (tape.bytes[start + i] != word.charAt(i)) {
                    return false;
                }
            }
            return true;
        }

        private boolean refuse(int fault, int at) {
            found = fault;
            foundAt = at;
            return false;
        }

        private boolean readLine() {
            if (isNamed("page")) {
                return readPage();
            }
            if (isNamed("stroke")) {
                return readStroke();
            }
            if (isNamed("hand")) {
                return readHand();
            }
            if (isNamed("over")) {
                return readOver();
            }
            if (isNamed("letter")) {
                return readLetter();
            }
            if (isNamed("place")) {
                return readPlace();
            }
            if (isNamed("word")) {
                return readWord();
            }
            if (isNamed("run")) {
                return readRun();
            }
            return refuse(MISPLACED, start);
        }

        private boolean readSemicolon() {
            readPiece();
            boolean isThere = piece == SIGN && tape.bytes[start] == ';';
            return isThere || refuse(MISPLACED, start);
        }

        private boolean readNumber(int least, int most) {
            readPiece();
            if (piece != NUMBER) {
                return refuse(MISPLACED, start);
            }
            boolean isInBounds = value >= least && value <= most;
            return isInBounds || refuse(OUT_OF_BOUNDS, start);
        }

        private boolean readPage() {
            if (lines > 0) {
                return refuse(MISPLACED, start);
            }
            if (!readNumber(LEAST_SIDE, MOST_WIDE)) {
                return false;
            }
            page.wide = value;
            if (!readNumber(LEAST_SIDE, MOST_HIGH)) {
                return false;
            }
            page.high = value;
            return true;
        }

        private boolean readStroke() {
            if (page.strokes >= MOST_STROKES) {
                return refuse(TOO_MANY, start);
            }
            if (!readNumber(0, page.wide - 1)) {
                return false;
            }
            int x = value;
            if (!readNumber(0, page.high - 1)) {
                return false;
            }
            int y = value;
            if (!readNumber(0, STEP_X.length - 1)) {
                return false;
            }
            int direction = value;
            if (!readNumber(1, MOST_LONG)) {
                return false;
            }
            if (!page.hasRoomFor(x, y, direction, value)) {
                return refuse(OUT_OF_BOUNDS, start);
            }
            page.addStroke(x, y, direction, value);
            return true;
        }

        private boolean readHand() {
            int word = start;
            if (!readNumber(0, page.strokes - 1)) {
                return false;
            }
            int stroke = value;
            if (!readNumber(LOWER, UPPER)) {
                return false;
            }
            if (page.handLeavesNoWay(stroke, value)) {
                return refuse(HANDLESS, word);
            }
            page.setHand(stroke, value);
            return true;
        }

        private boolean readOver() {
            int word = start;
            if (!readNumber(0, page.strokes - 1)) {
                return false;
            }
            int first = value;
            if (!readNumber(0, page.strokes - 1)) {
                return false;
            }
            int refusal = refusalOf(page, first, value);
            if (refusal == CANNOT_BE) {
                return refuse(TOLD_WRONG, start);
            }
            if (refusal == RING_COMES) {
                lastRing.show(page, first, value);
                return refuse(RING, word);
            }
            if (refusal != 0) {
                return refuse(HANDLESS, word);
            }
            page.link(first, value);
            return true;
        }

        private boolean readLetter() {
            if (script.letters >= MOST_LETTERS) {
                return refuse(TOO_MANY, start);
            }
            readPiece();
            if (piece != WORD || size != 1) {
                return refuse(MISPLACED, start);
            }
            int name = tape.bytes[start];
            if (script.letterNamed(name) != NONE) {
                return refuse(TOLD_WRONG, start);
            }
            if (!readNumber(1, WHOLE_FORM)) {
                return false;
            }
            int form = value;
            if (!readNumber(1, MOST_WEIGHT)) {
                return false;
            }
            script.addLetter(name, form, value);
            return true;
        }

        private boolean readPlace() {
            if (script.places >= MOST_PLACES) {
                return refuse(TOO_MANY, start);
            }
            if (!readNumber(0, page.wide - FORM_SIDE)) {
                return false;
            }
            int x = value;
            if (!readNumber(0, page.high - FORM_SIDE)) {
                return false;
            }
            script.addPlace(x, value);
            return true;
        }

        private boolean readWord() {
            if (script.words >= MOST_WORDS) {
                return refuse(TOO_MANY, start);
            }
            readPiece();
            if (piece != WORD || size > MOST_IN_WORD) {
                return refuse(MISPLACED, start);
            }
            int word = script.words;
            for (int i = 0; i < size; i++) {
                int letter = script.letterNamed(tape.bytes[start + i]);
                if (letter == NONE) {
                    return refuse(TOLD_WRONG, start);
                }
                script.wordLetters[word * MOST_IN_WORD + i] = letter;
            }
            script.wordLength[word] = size;
            script.words++;
            return true;
        }

        private boolean readRun() {
            if (script.runs >= MOST_RUNS) {
                return refuse(TOO_MANY, start);
            }
            if (!readNumber(0, script.places - 1)) {
                return false;
            }
            int first = value;
            if (!readNumber(1, Math.min(MOST_IN_WORD, script.places - first))) {
                return false;
            }
            if (!script.isFree(first, value)) {
                return refuse(TOLD_WRONG, start);
            }
            script.addRun(first, value);
            return true;
        }
    }
}
