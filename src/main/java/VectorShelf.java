/** Up to twelve vectors in up to four cells; a query's nearest ones are found exactly, by reading few. */
public final class VectorShelf {
    public static final int NONE = -1, BAD = -2, STATE = -3, FULL = -4;
    public static final long NO = -4611686018427387904L;

    private static final int ABSENT = -11, OUTSIDE = -12, OTHER_SORT = -13, BELOW_ZERO = -14, BY_ZERO = -15;
    private static final int NO_ANSWER = -99999;
    private static final int FAULT_BASE = -100;
    private static final int MOST_CELLS = 4, MOST_VECTORS = 12, MOST_TEXTS = 6, MOST_NEAR = 5;
    private static final int MOST_SHEETS = 4, MOST_ITEMS = 40, MOST_BYTES = 160;
    private static final int FARTHEST_PLACE = 999, GREATEST_TAG = 99, GREATEST_RADIUS = 999999999;
    private static final int MOST_ROUNDS = 20, MOST_STEPS = 40, MOST_SEEDS = 20;

    private final Shelf shelf;
    private final Shelf kept;
    private final Shelf thought;
    private final Text[] texts;
    private final TextReader reader;
    private final Judge judge;
    private final Reading reading;
    private final Company company;
    private final Sheet[] sheets;
    private int textCount;
    private boolean hasImage;

    public VectorShelf() {
        shelf = new Shelf();
        kept = new Shelf();
        thought = new Shelf();
        reader = new TextReader();
        judge = new Judge();
        reading = new Reading();
        company = new Company();
        texts = new Text[MOST_TEXTS];
        for (int i = 0; i < MOST_TEXTS; i++) {
            texts[i] = new Text();
        }
        sheets = new Sheet[MOST_SHEETS];
        for (int i = 0; i < MOST_SHEETS; i++) {
            sheets[i] = new Sheet();
        }
        textCount = 1;
        hasImage = false;
    }

    // ---- cells, vectors

    public int cell(int x, int y, int z) {
        if (!isPlace(x, y, z)) {
            return BAD;
        }
        return shelf.cells >= MOST_CELLS ? FULL : shelf.addCell(x, y, z);
    }

    public int vector(int x, int y, int z, int tag) {
        if (!isPlace(x, y, z) || !isIn(tag, -GREATEST_TAG, GREATEST_TAG)) {
            return BAD;
        }
        if (shelf.cells == 0) {
            return STATE;
        }
        return shelf.vectors >= MOST_VECTORS ? FULL : shelf.addVector(x, y, z, tag);
    }

    public int move(int one, int x, int y, int z) {
        if (!isVector(one) || !isPlace(x, y, z)) {
            return BAD;
        }
        if (!shelf.isThere(one)) {
            return STATE;
        }
        shelf.putAt(one, x, y, z);
        return shelf.cellOf[one];
    }

    public int drop(int one, int is) {
        if (!isVector(one) || !isIn(is, 0, 1)) {
            return BAD;
        }
        if (shelf.cellOf[one] == NONE) {
            return STATE;
        }
        int was = shelf.isThere(one) ? 0 : 1;
        shelf.mark(one, is == 0);
        return was;
    }

    public int told(int one, int what) {
        if (!isVector(one) || !isIn(what, 0, 12)) {
            return NO_ANSWER;
        }
        if (what < 3) {
            return shelf.places[3 * one + what];
        }
        boolean hasCell = shelf.cellOf[one] != NONE;
        switch (what) {
            case 3:
                return shelf.tags[one];
            case 4:
                return shelf.isThere(one) ? 0 : 1;
            case 5:
                return shelf.cellOf[one];
            case 6:
            case 7:
            case 8:
                return hasCell ? shelf.codeOf(one, what - 6) : NO_ANSWER;
            case 12:
                return hasCell ? (int) shelf.lowOfVector(one) : NO_ANSWER;
            default:
                return judged(one, what);
        }
    }

    private int judged(int one, int what) {
        judge.weigh(shelf, ruleOf(shelf));
        if (what == 9) {
            return judge.isFit(shelf, one) ? 1 : 0;
        }
        return what == 10 ? judge.pushes[one] : judge.far(shelf, one);
    }

    public int holds(int cell, int what) {
        if (!isIn(cell, 0, shelf.cells - 1) || !isIn(what, 0, 11)) {
            return NO_ANSWER;
        }
        if (what < 3) {
            return shelf.centres[3 * cell + what];
        }
        if (what > 9) {
            return Integer.bitCount(shelf.holders(cell) & (what == 10 ? -1 : shelf.there));
        }
        if (shelf.isBoxEmpty(cell)) {
            return NO_ANSWER;
        }
        if (what == 9) {
            return (int) shelf.lowOfCell(cell);
        }
        return what < 6 ? shelf.least[3 * cell + what - 3] : shelf.greatest[3 * cell + what - 6];
    }

    public int set(int what, int v) {
        if (!isSetting(what, v)) {
            return BAD;
        }
        return shelf.change(what, v);
    }

    private static boolean isSetting(int what, int v) {
        switch (what) {
            case 0:
                return isIn(v, 1, 64);
            case 1:
                return isIn(v, 0, 99);
            case 2:
                return isIn(v, 0, 999999);
            case 3:
                return isIn(v, 0, Measure.CAPPED);
            case 4:
            case 5:
            case 6:
                return isIn(v, 1, 9);
            default:
                return false;
        }
    }

    public int query(int x, int y, int z) {
        if (!isPlace(x, y, z)) {
            return BAD;
        }
        shelf.stand(x, y, z);
        return Integer.bitCount(fitting());
    }

    public int apart(int one, int other) {
        if (!isVector(one) || !isVector(other)) {
            return BAD;
        }
        return shelf.between(one, other);
    }

    public int high(int n) {
        return isIn(n, 0, GREATEST_RADIUS) ? (int) Measure.highOf(n) : BAD;
    }

    public int tidy(int cell) {
        return isIn(cell, 0, shelf.cells - 1) ? shelf.tidyUp(cell) : BAD;
    }

    public int centre() {
        return shelf.cells == 0 ? STATE : shelf.centreAnew();
    }

    // ---- texts

    public int feed(int letter) {
        if (!isIn(letter, 0, 255)) {
            return BAD;
        }
        return reader.size >= MOST_BYTES ? FULL : reader.append(letter);
    }

    public int text() {
        if (textCount >= MOST_TEXTS) {
            return FULL;
        }
        int fault = reader.readInto(texts[textCount]);
        if (fault >= 0) {
            return FAULT_BASE - fault;
        }
        textCount++;
        return textCount - 1;
    }

    public int force(int text) {
        if (!isIn(text, 0, textCount - 1)) {
            return BAD;
        }
        int was = shelf.rule;
        shelf.rule = text;
        return was;
    }

    // ---- who is near

    public int near(int k, int what) {
        if (!isIn(k, 1, MOST_NEAR) || !isIn(what, 0, 9)) {
            return BAD;
        }
        judge.weigh(shelf, ruleOf(shelf));
        reading.readFor(k, shelf, judge);
        switch (what) {
            case 5:
                return reading.read;
            case 6:
                return reading.skipped;
            case 7:
                return reading.opened;
            case 8:
                return reading.lastFar();
            case 9:
                return reading.size;
            default:
                return reading.heldAt(what);
        }
    }

    public int within(int r, int what) {
        if (!isIn(r, 0, GREATEST_RADIUS) || !isIn(what, 0, 1)) {
            return BAD;
        }
        int fit = fitting();
        int inside = 0;
        for (int one = 0; one < shelf.vectors; one++) {
            if (isBit(fit, one) && judge.far(shelf, one) <= r) {
                inside |= 1 << one;
            }
        }
        return what == 0 ? Integer.bitCount(inside) : inside;
    }

    public int rank(int one) {
        if (!isVector(one)) {
            return BAD;
        }
        int fit = fitting();
        if (!isBit(fit, one)) {
            return NONE;
        }
        int far = judge.far(shelf, one);
        int ahead = 0;
        for (int other = 0; other < shelf.vectors; other++) {
            if (isBit(fit, other) && isAhead(judge.far(shelf, other), other, far, one)) {
                ahead++;
            }
        }
        return ahead;
    }

    public int friend(int one, int what) {
        if (!isVector(one) || !isIn(what, 0, 1)) {
            return BAD;
        }
        return what == 0 ? company.friendOf(shelf, one) : company.friendsBy(shelf, one);
    }

    public int pair(int what) {
        return isIn(what, 0, 2) ? partOfTwo(what, false) : BAD;
    }

    public int two(int what) {
        return isIn(what, 0, 2) ? partOfTwo(what, true) : BAD;
    }

    private int partOfTwo(int what, boolean serving) {
        int both = company.bestTwo(shelf, serving);
        if (both == NONE) {
            return NONE;
        }
        int lesser = both / MOST_VECTORS;
        int other = both % MOST_VECTORS;
        if (what == 2) {
            return company.priceOf(shelf, lesser, other, serving);
        }
        return what == 0 ? lesser : other;
    }

    public int spread(int i) {
        return isIn(i, 0, MOST_VECTORS - 1) ? company.spreadAt(shelf, i) : BAD;
    }

    public int cover(int r, int what) {
        if (!isIn(r, 0, GREATEST_RADIUS) || !isIn(what, 0, 1)) {
            return BAD;
        }
        int set = company.fewestCovering(shelf, r);
        return what == 1 || set == NONE ? set : Integer.bitCount(set);
    }

    public int rounds(int what) {
        if (!isIn(what, 0, 1)) {
            return BAD;
        }
        if (shelf.cells == 0) {
            return STATE;
        }
        thought.lay(shelf);
        int made = 0;
        boolean changed = true;
        while (changed && made < MOST_ROUNDS) {
            changed = thought.centreAnew() > 0;
            made++;
        }
        return what == 0 ? made : thought.squaresFromCentres();
    }

    public int goes(int i, int g) {
        if (!isIn(i, 0, 2) || !isIn(g, -99, 99)) {
            return BAD;
        }
        judge.weigh(shelf, ruleOf(shelf));
        int now = judge.first(shelf);
        thought.lay(shelf);
        for (int steps = 1; steps <= MOST_STEPS; steps++) {
            int at = shelf.query[i] + steps * g;
            if (!isIn(at, -FARTHEST_PLACE, FARTHEST_PLACE)) {
                return NONE;
            }
            thought.query[i] = at;
            if (judge.first(thought) != now) {
                return steps;
            }
        }
        return NONE;
    }

    public long costs(int part) {
        if (!isIn(part, 0, 1) || shelf.there == 0) {
            return NO;
        }
        judge.weigh(shelf, ruleOf(shelf));
        thought.lay(shelf);
        int read = 0;
        for (int one = 0; one < shelf.vectors; one++) {
            if (shelf.isThere(one)) {
                thought.standAt(one);
                reading.readFor(1, thought, judge);
                read += reading.read;
            }
        }
        return partOfFraction(read, Integer.bitCount(shelf.there), part);
    }

    public long lot(int seed, int m, int h, int part) {
        if (!isIn(m, 1, MOST_SEEDS) || !isIn(h, 0, MOST_VECTORS) || !isIn(part, 0, 1)) {
            return NO;
        }
        judge.weigh(shelf, ruleOf(shelf));
        thought.lay(shelf);
        int dear = 0;
        for (int i = 0; i < m; i++) {
            thought.stand(drawnFrom(seed + i, 0), drawnFrom(seed + i, 1), drawnFrom(seed + i, 2));
            reading.readFor(1, thought, judge);
            if (reading.read > h) {
                dear++;
            }
        }
        return partOfFraction(dear, m, part);
    }

    public int drawn(int seed, int i) {
        return isIn(i, 0, 2) ? drawnFrom(seed, i) : NO_ANSWER;
    }

    private static int drawnFrom(int seed, int i) {
        int z = seed;
        for (int n = 0; n <= i; n++) {
            z = z * 1103515245 + 12345;
        }
        return (z >>> 9) % 1999 - FARTHEST_PLACE;
    }

    // ---- what was told

    public int tells(int sheet, int what) {
        if (!isSheet(sheet) || !isIn(what, 0, 4)) {
            return BAD;
        }
        Sheet row = sheets[sheet];
        if (row.isMissing()) {
            return ABSENT;
        }
        if (row.size > MOST_VECTORS) {
            return BAD;
        }
        judge.weigh(shelf, ruleOf(shelf));
        thought.lay(shelf);
        switch (what) {
            case 0:
                return firstOtherwise(row);
            case 1:
                return kindsTelling(row);
            case 2:
                return textsTelling(row);
            case 3:
                return weightsTelling(row);
            default:
                return dropsTelling(row);
        }
    }

    private int firstOtherwise(Sheet row) {
        for (int i = 0; i < row.size; i++) {
            thought.standAt(i);
            if (judge.first(thought) != row.tellAt(i)) {
                return i;
            }
        }
        return NONE;
    }

    private int kindsTelling(Sheet row) {
        int kinds = 0;
        for (int kind = 0; kind <= Measure.CAPPED; kind++) {
            thought.measure.kind = kind;
            if (firstOtherwise(row) == NONE) {
                kinds |= 1 << kind;
            }
        }
        return kinds;
    }

    private int textsTelling(Sheet row) {
        int telling = 0;
        for (int i = 0; i < textCount; i++) {
            judge.weigh(thought, texts[i]);
            if (firstOtherwise(row) == NONE) {
                telling |= 1 << i;
            }
        }
        return telling;
    }

    private int weightsTelling(Sheet row) {
        int weights = 0;
        for (int weight = 1; weight <= 9; weight++) {
            thought.measure.weights[0] = weight;
            if (firstOtherwise(row) == NONE) {
                weights |= 1 << weight;
            }
        }
        return weights;
    }

    private int dropsTelling(Sheet row) {
        int drops = 0;
        for (int one = 0; one < shelf.vectors; one++) {
            if (shelf.isThere(one)) {
                thought.mark(one, false);
                if (firstOtherwise(row) == NONE) {
                    drops |= 1 << one;
                }
                thought.mark(one, true);
            }
        }
        return drops;
    }

    public int film(int sheet, int n) {
        if (!isSheet(sheet) || !isIn(n, 0, MOST_VECTORS)) {
            return BAD;
        }
        judge.weigh(shelf, ruleOf(shelf));
        thought.lay(shelf);
        Sheet row = sheets[sheet];
        row.become(Sheet.SHORTS, n);
        for (int i = 0; i < n; i++) {
            thought.standAt(i);
            row.write(i, judge.first(thought));
        }
        return n;
    }

    public int image() {
        kept.lay(shelf);
        hasImage = true;
        return shelf.vectors;
    }

    public int back() {
        if (!hasImage) {
            return STATE;
        }
        shelf.lay(kept);
        return shelf.vectors;
    }

    public int count(int what) {
        switch (what) {
            case 0:
                return shelf.vectors;
            case 1:
                return shelf.cells;
            case 2:
                return Integer.bitCount(shelf.there);
            case 3:
                return textCount;
            case 4:
                return reader.size;
            case 5:
                return shelf.rule;
            case 6:
                return Integer.bitCount(fitting());
            case 7:
                return shelf.measure.kind;
            default:
                return BAD;
        }
    }

    // ---- the host

    public int sheet(int sheet, int sort, int n) {
        if (!isSheet(sheet) || !isIn(sort, Sheet.MISSING, Sheet.SHORTS)) {
            return BAD;
        }
        if (sort != Sheet.MISSING && n > MOST_ITEMS) {
            return BAD;
        }
        if (sort != Sheet.MISSING && n < 0) {
            return BELOW_ZERO;
        }
        sheets[sheet].become(sort, n);
        return 1;
    }

    public int put(int sheet, int i, int v) {
        int refused = refusal(sheet, Sheet.ANY, i, 1);
        if (refused != 0) {
            return refused;
        }
        sheets[sheet].write(i, v);
        return 1;
    }

    public int blank(int sheet, int i) {
        int refused = refusal(sheet, Sheet.FLOATS, i, 1);
        if (refused != 0) {
            return refused;
        }
        sheets[sheet].wipe(i);
        return 1;
    }

    public int item(int sheet, int i) {
        return refusal(sheet, Sheet.ANY, i, 1) == 0 ? sheets[sheet].tellAt(i) : NO_ANSWER;
    }

    public int copy(int sheet, int i, int other, int j, int n) {
        if (!isSheet(sheet) || !isSheet(other)) {
            return BAD;
        }
        Sheet from = sheets[sheet];
        Sheet to = sheets[other];
        if (from.isMissing() || to.isMissing()) {
            return ABSENT;
        }
        if (from.sort != to.sort) {
            return OTHER_SORT;
        }
        if (!from.hasRun(i, n) || !to.hasRun(j, n)) {
            return OUTSIDE;
        }
        from.giveRun(i, to, j, n);
        return n;
    }

    public int rest(int sheet, int i, int j) {
        int refused = refusal(sheet, Sheet.BYTES, i, 1);
        if (refused == 0) {
            refused = refusal(sheet, Sheet.BYTES, j, 1);
        }
        if (refused != 0) {
            return refused;
        }
        int divisor = sheets[sheet].tellAt(j);
        return divisor == 0 ? BY_ZERO : sheets[sheet].tellAt(i) % divisor;
    }

    public int shelve(int sheet, int sort, int from, int n) {
        if (!isIn(sort, Sheet.FLOATS, Sheet.SHORTS) || !isIn(n, 0, MOST_VECTORS)) {
            return BAD;
        }
        int refused = refusal(sheet, sort, 0, 0);
        if (refused != 0) {
            return refused;
        }
        Sheet row = sheets[sheet];
        int came = 0;
        for (int i = 0; i < n; i++) {
            int at = from + 4 * i;
            if (!row.hasRun(at, 4)) {
                return OUTSIDE;
            }
            if (vector(row.tellAt(at), row.tellAt(at + 1), row.tellAt(at + 2), row.tellAt(at + 3)) >= 0) {
                came++;
            }
        }
        return came;
    }

    public int ask(int sheet, int from) {
        int refused = refusal(sheet, Sheet.FLOATS, from, 3);
        if (refused != 0) {
            return refused;
        }
        Sheet row = sheets[sheet];
        shelf.stand(row.restBy250(from), row.restBy250(from + 1), row.restBy250(from + 2));
        return Integer.bitCount(fitting());
    }

    public int code(int one, int sheet, int i) {
        if (!isSheet(sheet) || !isVector(one)) {
            return BAD;
        }
        if (shelf.cellOf[one] == NONE) {
            return STATE;
        }
        int refused = refusal(sheet, Sheet.BYTES, i, 3);
        if (refused != 0) {
            return refused;
        }
        for (int n = 0; n < 3; n++) {
            sheets[sheet].write(i + n, shelf.codeOf(one, n));
        }
        return 3;
    }

    /** Why n items of a sheet of a sort, from item i on, are not to be had; 0 if they are. */
    private int refusal(int sheet, int sort, int i, int n) {
        if (!isSheet(sheet)) {
            return BAD;
        }
        Sheet row = sheets[sheet];
        if (row.isMissing()) {
            return ABSENT;
        }
        if (sort != Sheet.ANY && sort != row.sort) {
            return OTHER_SORT;
        }
        return row.hasRun(i, n) ? 0 : OUTSIDE;
    }

    public int taken(int k) {
        if (!isIn(k, 0, Measure.CAPPED)) {
            return BAD;
        }
        return shelf.measure.isUnder(k) ? shelf.measure.kind : OTHER_SORT;
    }

    // ---- what the calls share

    private static boolean isIn(int n, int least, int greatest) {
        return n >= least && n <= greatest;
    }

    private static boolean isPlace(int x, int y, int z) {
        return isIn(x, -FARTHEST_PLACE, FARTHEST_PLACE)
            && isIn(y, -FARTHEST_PLACE, FARTHEST_PLACE)
            && isIn(z, -FARTHEST_PLACE, FARTHEST_PLACE);
    }

    private static boolean isBit(int bits, int i) {
        return (bits >> i & 1) == 1;
    }

    private static boolean isAhead(int far, int one, int otherFar, int other) {
        return far < otherFar || far == otherFar && one < other;
    }

    private static long partOfFraction(int above, int below, int part) {
        int a = above;
        int b = below;
        for (int n = 0; n < 64 && a != 0; n++) {
            int left = b % a;
            b = a;
            a = left;
        }
        int divisor = b > 0 ? b : 1;
        return part == 0 ? above / divisor : below / divisor;
    }

    private boolean isVector(int one) {
        return isIn(one, 0, shelf.vectors - 1);
    }

    private static boolean isSheet(int sheet) {
        return isIn(sheet, 0, MOST_SHEETS - 1);
    }

    private Text ruleOf(Shelf of) {
        return texts[isIn(of.rule, 0, textCount - 1) ? of.rule : 0];
    }

    private int fitting() {
        judge.weigh(shelf, ruleOf(shelf));
        return judge.fitBits(shelf);
    }

    /** How far apart differences are, by one of six kinds; in whole numbers and in floats. */
    private static final class Measure {
        static final int SQUARE = 0, WEIGHED = 1, BLOCK = 2, DEAD = 3, MOST = 4, CAPPED = 5;
        private static final int[] ABOVE = {-1, SQUARE, SQUARE, WEIGHED, BLOCK, DEAD};

        int kind = SQUARE;
        int slack = 0;
        int cap = 999999;
        final int[] weights = {1, 1, 1};

        void lay(Measure other) {
            kind = other.kind;
            slack = other.slack;
            cap = other.cap;
            System.arraycopy(other.weights, 0, weights, 0, 3);
        }

        boolean isUnder(int k) {
            int at = kind;
            for (int n = 0; n < ABOVE.length && at >= 0; n++) {
                if (at == k) {
                    return true;
                }
                at = ABOVE[at];
            }
            return false;
        }

        int tell(int x, int y, int z) {
            int first = term(0, x);
            int second = term(1, y);
            int third = term(2, z);
            if (kind == MOST) {
                return 4 * Math.max(Math.max(first, second), third) + 1;
            }
            int sum = first + second + third;
            if (kind == BLOCK) {
                return 4 * sum;
            }
            return kind == CAPPED ? Math.min(sum, cap) : sum;
        }

        private int term(int i, int d) {
            switch (kind) {
                case SQUARE:
                    return d * d;
                case WEIGHED:
                    return d * d * weights[i];
                case BLOCK:
                case MOST:
                    return d;
                default:
                    int reach = d > slack ? d - slack : 0;
                    return reach * reach * weights[i];
            }
        }

        float lowOf(int x, int y, int z) {
            return floatWhole(floatJoin(floatJoin(floatTerm(0, x), floatTerm(1, y)), floatTerm(2, z)))
                * 0.99999904632568359375f;
        }

        private float floatTerm(int i, int d) {
            float whole = (float) d;
            float weight = (float) weights[i];
            switch (kind) {
                case SQUARE:
                    return whole * whole;
                case WEIGHED:
                    return whole * whole * weight;
                case BLOCK:
                case MOST:
                    return whole;
                default:
                    float reach = d > slack ? (float) (d - slack) : 0f;
                    return reach * reach * weight;
            }
        }

        private float floatJoin(float a, float b) {
            if (kind == MOST) {
                return a >= b ? a : b;
            }
            return a + b;
        }

        private float floatWhole(float a) {
            if (kind == BLOCK) {
                return 4f * a;
            }
            if (kind == MOST) {
                return 4f * a + 1f;
            }
            return kind == CAPPED && a > (float) cap ? (float) cap : a;
        }

        static float highOf(int n) {
            return (float) n * 1.00000095367431640625f;
        }
    }

    /** The cells, the vectors, the query and what is set: all that an image keeps. */
    private static final class Shelf {
        final Measure measure = new Measure();
        int step = 16;
        int rule = 0;
        final int[] query = new int[3];
        int cells = 0;
        final int[] centres = new int[3 * MOST_CELLS];
        /** A box is empty when its least is above its greatest. */
        final int[] least = new int[3 * MOST_CELLS];
        final int[] greatest = new int[3 * MOST_CELLS];
        int vectors = 0;
        final int[] places = new int[3 * MOST_VECTORS];
        final int[] tags = new int[MOST_VECTORS];
        final int[] cellOf = new int[MOST_VECTORS];
        /** Bit i: vector i is there. */
        int there = 0;

        void lay(Shelf other) {
            measure.lay(other.measure);
            step = other.step;
            rule = other.rule;
            System.arraycopy(other.query, 0, query, 0, query.length);
            cells = other.cells;
            System.arraycopy(other.centres, 0, centres, 0, centres.length);
            System.arraycopy(other.least, 0, least, 0, least.length);
            System.arraycopy(other.greatest, 0, greatest, 0, greatest.length);
            vectors = other.vectors;
            System.arraycopy(other.places, 0, places, 0, places.length);
            System.arraycopy(other.tags, 0, tags, 0, tags.length);
            System.arraycopy(other.cellOf, 0, cellOf, 0, cellOf.length);
            there = other.there;
        }

        int change(int what, int v) {
            int was;
            switch (what) {
                case 0:
                    was = step;
                    step = v;
                    return was;
                case 1:
                    was = measure.slack;
                    measure.slack = v;
                    return was;
                case 2:
                    was = measure.cap;
                    measure.cap = v;
                    return was;
                case 3:
                    was = measure.kind;
                    measure.kind = v;
                    return was;
                case 4:
                case 5:
                case 6:
                    was = measure.weights[what - 4];
                    measure.weights[what - 4] = v;
                    return was;
                default:
                    return BAD;
            }
        }

        void stand(int x, int y, int z) {
            query[0] = x;
            query[1] = y;
            query[2] = z;
        }

        void standAt(int one) {
            if (isIn(one, 0, vectors - 1)) {
                stand(places[3 * one], places[3 * one + 1], places[3 * one + 2]);
            } else {
                stand(0, 0, 0);
            }
        }

        boolean isThere(int one) {
            return isBit(there, one);
        }

        void mark(int one, boolean isThere) {
            there = isThere ? there | 1 << one : there & ~(1 << one);
        }

        int addCell(int x, int y, int z) {
            if (cells >= MOST_CELLS) {
                return FULL;
            }
            int cell = cells;
            centres[3 * cell] = x;
            centres[3 * cell + 1] = y;
            centres[3 * cell + 2] = z;
            emptyBox(cell);
            cells++;
            return cell;
        }

        int addVector(int x, int y, int z, int tag) {
            if (vectors >= MOST_VECTORS) {
                return FULL;
            }
            int one = vectors;
            vectors++;
            tags[one] = tag;
            mark(one, true);
            putAt(one, x, y, z);
            return one;
        }

        void putAt(int one, int x, int y, int z) {
            places[3 * one] = x;
            places[3 * one + 1] = y;
            places[3 * one + 2] = z;
            comeInto(one, nearestCell(one));
        }

        private int nearestCell(int one) {
            int nearest = NONE;
            int best = 0;
            for (int cell = 0; cell < cells; cell++) {
                int squares = squares(one, cell);
                if (nearest == NONE || squares < best) {
                    nearest = cell;
                    best = squares;
                }
            }
            return nearest;
        }

        private int squares(int one, int cell) {
            int sum = 0;
            for (int i = 0; i < 3; i++) {
                int d = places[3 * one + i] - centres[3 * cell + i];
                sum += d * d;
            }
            return sum;
        }

        private void comeInto(int one, int cell) {
            cellOf[one] = cell;
            if (cell == NONE) {
                return;
            }
            for (int i = 0; i < 3; i++) {
                int at = 3 * cell + i;
                least[at] = Math.min(least[at], places[3 * one + i]);
                greatest[at] = Math.max(greatest[at], places[3 * one + i]);
            }
        }

        private void emptyBox(int cell) {
            for (int i = 0; i < 3; i++) {
                least[3 * cell + i] = FARTHEST_PLACE + 1;
                greatest[3 * cell + i] = -FARTHEST_PLACE - 1;
            }
        }

        boolean isBoxEmpty(int cell) {
            return least[3 * cell] > greatest[3 * cell];
        }

        /** Which vectors have the cell, as bits. */
        int holders(int cell) {
            int bits = 0;
            for (int one = 0; one < vectors; one++) {
                if (cellOf[one] == cell) {
                    bits |= 1 << one;
                }
            }
            return bits;
        }

        /** Who is dropped of the cell has no cell any more: how many these are. */
        private int shed(int cell) {
            int shed = 0;
            for (int one = 0; one < vectors; one++) {
                if (cellOf[one] == cell && !isThere(one)) {
                    cellOf[one] = NONE;
                    shed++;
                }
            }
            return shed;
        }

        int tidyUp(int cell) {
            int shed = shed(cell);
            emptyBox(cell);
            for (int one = 0; one < vectors; one++) {
                if (cellOf[one] == cell) {
                    comeInto(one, cell);
                }
            }
            return shed;
        }

        int centreAnew() {
            int changed = 0;
            for (int cell = 0; cell < cells; cell++) {
                shed(cell);
                if (centreOnHolders(cell)) {
                    changed++;
                }
                emptyBox(cell);
            }
            for (int one = 0; one < vectors; one++) {
                if (isThere(one)) {
                    comeInto(one, nearestCell(one));
                }
            }
            return changed;
        }

        private boolean centreOnHolders(int cell) {
            int holders = holders(cell);
            int many = Integer.bitCount(holders);
            if (many == 0) {
                return false;
            }
            boolean changed = false;
            for (int i = 0; i < 3; i++) {
                int sum = 0;
                for (int one = 0; one < vectors; one++) {
                    sum += isBit(holders, one) ? places[3 * one + i] : 0;
                }
                int middle = Math.floorDiv(sum, many);
                changed = changed || middle != centres[3 * cell + i];
                centres[3 * cell + i] = middle;
            }
            return changed;
        }

        int squaresFromCentres() {
            int sum = 0;
            for (int one = 0; one < vectors; one++) {
                if (isThere(one) && cellOf[one] != NONE) {
                    sum += squares(one, cellOf[one]);
                }
            }
            return sum;
        }

        int between(int one, int other) {
            int a = 3 * one;
            int b = 3 * other;
            return measure.tell(Math.abs(places[a] - places[b]),
                Math.abs(places[a + 1] - places[b + 1]),
                Math.abs(places[a + 2] - places[b + 2]));
        }

        int codeOf(int one, int i) {
            int cell = cellOf[one];
            if (cell == NONE || step == 0) {
                return 0;
            }
            int code = Math.floorDiv(places[3 * one + i] - centres[3 * cell + i], step);
            return Math.max(-128, Math.min(127, code));
        }

        float lowOfCell(int cell) {
            int at = 3 * cell;
            return measure.lowOf(outside(query[0], least[at], greatest[at]),
                outside(query[1], least[at + 1], greatest[at + 1]),
                outside(query[2], least[at + 2], greatest[at + 2]));
        }

        float lowOfVector(int one) {
            return measure.lowOf(outsideOfSpan(one, 0), outsideOfSpan(one, 1), outsideOfSpan(one, 2));
        }

        private int outsideOfSpan(int one, int i) {
            int cell = cellOf[one];
            if (cell == NONE) {
                return 0;
            }
            int code = codeOf(one, i);
            int from = centres[3 * cell + i] + code * step;
            int to = from + step - 1;
            return outside(query[i], code == -128 ? -FARTHEST_PLACE : from, code == 127 ? FARTHEST_PLACE : to);
        }

        private static int outside(int q, int from, int to) {
            if (q < from) {
                return from - q;
            }
            return q > to ? q - to : 0;
        }
    }

    /** A text, as what it does to a stack of numbers: first that of fits, then that of adds. */
    private static final class Text {
        static final int X = -1, Y = -2, Z = -3, TAG = -4, NUMBER = -5, CELL = -6;
        static final int NEGATE = -7, NOT = -8;
        static final int PLUS = -9, MINUS = -10, TIMES = -11, LESS = -12, SAME = -13, AND = -14, OR = -15;

        /** A number of 0 or more stands for itself. */
        final int[] steps = new int[MOST_BYTES];
        int size;
        int fitsSize;

        /** At first: fits 1 ; adds 0 ; */
        Text() {
            steps[0] = 1;
            steps[1] = 0;
            fitsSize = 1;
            size = 2;
        }

        void clear() {
            size = 0;
            fitsSize = 0;
        }

        void add(int step) {
            if (size < steps.length) {
                steps[size] = step;
                size++;
            }
        }
    }

    /** The tape, and how a text is read from it. */
    private static final class TextReader {
        private static final int END = 256, FAULTY = 257, NUMBER = 258, NAME = 259;
        private static final int FITS = 260, ADDS = 261, OR = 262, AND = 263, NOT = 264;
        private static final int MOST_OPEN = 5, MOST_DIGITS = 4;

        private final int[] tape = new int[MOST_BYTES];
        int size = 0;
        private int start = 0;
        private int next = 0;
        /** A sign stands for itself; so does a byte that begins no token, which is wanted nowhere. */
        private int token = END;
        private int value = 0;
        private int fault = NONE;
        private Text target = new Text();

        int append(int letter) {
            if (size < tape.length) {
                tape[size] = letter;
                size++;
            }
            return size;
        }

        /** The place of the fault, or NONE; the tape is empty then. */
        int readInto(Text text) {
            target = text;
            target.clear();
            fault = NONE;
            next = 0;
            advance();
            expect(FITS);
            either(0);
            expect(';');
            target.fitsSize = target.size;
            expect(ADDS);
            either(0);
            expect(';');
            if (token != END) {
                fail();
            }
            size = 0;
            return fault;
        }

        private void fail() {
            if (fault == NONE) {
                fault = start;
            }
            token = FAULTY;
        }

        private void expect(int wanted) {
            if (token == wanted) {
                advance();
            } else {
                fail();
            }
        }

        private void either(int open) {
            both(open);
            for (int n = 0; n < MOST_BYTES && token == OR; n++) {
                advance();
                both(open);
                target.add(Text.OR);
            }
        }

        private void both(int open) {
            negated(open);
            for (int n = 0; n < MOST_BYTES && token == AND; n++) {
                advance();
                negated(open);
                target.add(Text.AND);
            }
        }

        private void negated(int open) {
            if (token != NOT) {
                compared(open);
            } else if (open >= MOST_OPEN) {
                fail();
            } else {
                advance();
                negated(open + 1);
                target.add(Text.NOT);
            }
        }

        private void compared(int open) {
            sum(open);
            if (token == '<' || token == '=') {
                int step = token == '<' ? Text.LESS : Text.SAME;
                advance();
                sum(open);
                target.add(step);
            }
        }

        private void sum(int open) {
            product(open);
            for (int n = 0; n < MOST_BYTES && (token == '+' || token == '-'); n++) {
                int step = token == '+' ? Text.PLUS : Text.MINUS;
                advance();
                product(open);
                target.add(step);
            }
        }

        private void product(int open) {
            single(open);
            for (int n = 0; n < MOST_BYTES && token == '*'; n++) {
                advance();
                single(open);
                target.add(Text.TIMES);
            }
        }

        private void single(int open) {
            if (token == NUMBER || token == NAME) {
                target.add(value);
                advance();
            } else if (token == '-' && open < MOST_OPEN) {
                advance();
                single(open + 1);
                target.add(Text.NEGATE);
            } else if (token == '(' && open < MOST_OPEN) {
                advance();
                either(open + 1);
                expect(')');
            } else {
                fail();
            }
        }

        private void advance() {
            while (next < size && isBlank(letterAt(next))) {
                next++;
            }
            start = next;
            int letter = letterAt(start);
            if (letter == NONE) {
                token = END;
            } else if (isLetter(letter)) {
                takeWord();
            } else if (isDigit(letter)) {
                takeNumber();
            } else {
                next++;
                token = letter;
            }
        }

        private int letterAt(int at) {
            return at >= 0 && at < size && at < tape.length ? tape[at] : NONE;
        }

        private static boolean isBlank(int letter) {
            return letter == 32 || letter == 10;
        }

        private static boolean isLetter(int letter) {
            return letter >= 'a' && letter <= 'z';
        }

        private static boolean isDigit(int letter) {
            return letter >= '0' && letter <= '9';
        }

        private void takeNumber() {
            value = 0;
            while (next < size && isDigit(letterAt(next))) {
                // Beyond four digits the value is of no use, and must not wrap.
                value = next - start < MOST_DIGITS ? 10 * value + letterAt(next) - '0' : value;
                next++;
            }
            token = next - start > MOST_DIGITS ? FAULTY : NUMBER;
        }

        private void takeWord() {
            while (next < size && isLetter(letterAt(next))) {
                next++;
            }
            value = nameSpelt();
            token = value == 0 ? keySpelt() : NAME;
        }

        private int nameSpelt() {
            if (isSpelt("tag")) {
                return Text.TAG;
            }
            if (isSpelt("number")) {
                return Text.NUMBER;
            }
            if (isSpelt("cell")) {
                return Text.CELL;
            }
            if (isSpelt("x")) {
                return Text.X;
            }
            if (isSpelt("y")) {
                return Text.Y;
            }
            return isSpelt("z") ? Text.Z : 0;
        }

        private int keySpelt() {
            if (isSpelt("fits")) {
                return FITS;
            }
            if (isSpelt("adds")) {
                return ADDS;
            }
            if (isSpelt("or")) {
                return OR;
            }
            if (isSpelt("and")) {
                return AND;
            }
            return isSpelt("not") ? NOT : FAULTY;
        }

        private boolean isSpelt(String word) {
            if (next - start != word.length()) {
                return false;
            }
            for (int i = 0; i < word.length(); i++) {
                if (start + i >= tape.length || tape[start + i] != word.charAt(i)) {
                    return false;
                }
            }
            return true;
        }
    }

    /** What a rule tells of each vector; it is weighed anew ahead of each use. */
    private static final class Judge {
        private final int[] stack = new int[MOST_BYTES];
        private int top = 0;
        /** Bit i: of vector i, there or not, fits tells what is not 0. */
        private int passing = 0;
        final int[] pushes = new int[MOST_VECTORS];

        void weigh(Shelf shelf, Text rule) {
            passing = 0;
            for (int one = 0; one < shelf.vectors; one++) {
                if (valueOf(rule, 0, rule.fitsSize, shelf, one) != 0) {
                    passing |= 1 << one;
                }
                int push = valueOf(rule, rule.fitsSize, rule.size, shelf, one);
                pushes[one] = Math.max(0, Math.min(99, push));
            }
        }

        boolean isFit(Shelf shelf, int one) {
            return isBit(fitBits(shelf), one);
        }

        int fitBits(Shelf shelf) {
            return passing & shelf.there;
        }

        int far(Shelf shelf, int one) {
            int a = 3 * one;
            int apart = shelf.measure.tell(Math.abs(shelf.places[a] - shelf.query[0]),
                Math.abs(shelf.places[a + 1] - shelf.query[1]),
                Math.abs(shelf.places[a + 2] - shelf.query[2]));
            return apart + pushes[one];
        }

        /** The first of all that fit, or NONE. */
        int first(Shelf shelf) {
            int fit = fitBits(shelf);
            int first = NONE;
            int least = 0;
            for (int one = 0; one < shelf.vectors; one++) {
                if (isBit(fit, one)) {
                    int far = far(shelf, one);
                    if (first == NONE || far < least) {
                        first = one;
                        least = far;
                    }
                }
            }
            return first;
        }

        private int valueOf(Text text, int from, int to, Shelf shelf, int one) {
            top = 0;
            for (int i = from; i < to && i < text.steps.length; i++) {
                int step = text.steps[i];
                if (step >= 0) {
                    lift(step);
                } else if (step >= Text.CELL) {
                    lift(named(step, shelf, one));
                } else if (step >= Text.NOT) {
                    turn(step);
                } else {
                    join(step);
                }
            }
            return top > 0 ? stack[0] : 0;
        }

        private void lift(int value) {
            if (top < stack.length) {
                stack[top] = value;
                top++;
            }
        }

        private static int named(int name, Shelf shelf, int one) {
            switch (name) {
                case Text.X:
                    return shelf.places[3 * one];
                case Text.Y:
                    return shelf.places[3 * one + 1];
                case Text.Z:
                    return shelf.places[3 * one + 2];
                case Text.TAG:
                    return shelf.tags[one];
                case Text.NUMBER:
                    return one;
                default:
                    return shelf.cellOf[one];
            }
        }

        private void turn(int step) {
            if (top > 0) {
                int a = stack[top - 1];
                stack[top - 1] = step == Text.NEGATE ? -a : truth(a == 0);
            }
        }

        private void join(int step) {
            if (top > 1) {
                top--;
                stack[top - 1] = joined(step, stack[top - 1], stack[top]);
            }
        }

        private static int joined(int step, int a, int b) {
            switch (step) {
                case Text.PLUS:
                    return a + b;
                case Text.MINUS:
                    return a - b;
                case Text.TIMES:
                    return a * b;
                case Text.LESS:
                    return truth(a < b);
                case Text.SAME:
                    return truth(a == b);
                case Text.AND:
                    return truth(a != 0 && b != 0);
                default:
                    return truth(a != 0 || b != 0);
            }
        }

        private static int truth(boolean is) {
            return is ? 1 : 0;
        }
    }

    /** How the nearest ones are read, cell by cell. */
    private static final class Reading {
        private final float[] lows = new float[MOST_CELLS];
        private final int[] held = new int[MOST_NEAR + 1];
        private final int[] fars = new int[MOST_NEAR + 1];
        int size = 0;
        int read = 0;
        int skipped = 0;
        int opened = 0;

        void readFor(int k, Shelf shelf, Judge judge) {
            size = 0;
            read = 0;
            skipped = 0;
            opened = 0;
            int left = boxedCells(shelf);
            for (int n = 0; n < MOST_CELLS && left != 0; n++) {
                int cell = lowest(left);
                if (isBeyond(lows[cell], k)) {
                    return;
                }
                left &= ~(1 << cell);
                opened++;
                readCell(cell, k, shelf, judge);
            }
        }

        private int boxedCells(Shelf shelf) {
            int boxed = 0;
            for (int cell = 0; cell < shelf.cells; cell++) {
                if (!shelf.isBoxEmpty(cell)) {
                    lows[cell] = shelf.lowOfCell(cell);
                    boxed |= 1 << cell;
                }
            }
            return boxed;
        }

        private int lowest(int cells) {
            int lowest = 0;
            boolean found = false;
            for (int cell = 0; cell < MOST_CELLS; cell++) {
                if (isBit(cells, cell) && (!found || lows[cell] < lows[lowest])) {
                    lowest = cell;
                    found = true;
                }
            }
            return lowest;
        }

        private boolean isBeyond(float low, int k) {
            return size > 0 && size >= k && low > Measure.highOf(fars[size - 1]);
        }

        private void readCell(int cell, int k, Shelf shelf, Judge judge) {
            int inCell = shelf.holders(cell) & shelf.there;
            int fit = judge.fitBits(shelf);
            for (int one = 0; one < shelf.vectors; one++) {
                if (isBit(inCell, one)) {
                    if (isBeyond(shelf.lowOfVector(one), k)) {
                        skipped++;
                    } else {
                        read++;
                        if (isBit(fit, one)) {
                            hold(one, judge.far(shelf, one), k);
                        }
                    }
                }
            }
        }

        private void hold(int one, int far, int k) {
            int at = Math.min(size, MOST_NEAR);
            while (at > 0 && isAhead(far, one, fars[at - 1], held[at - 1])) {
                held[at] = held[at - 1];
                fars[at] = fars[at - 1];
                at--;
            }
            held[at] = one;
            fars[at] = far;
            size = Math.min(size + 1, k);
        }

        int heldAt(int i) {
            return isIn(i, 0, size - 1) ? held[i] : NONE;
        }

        int lastFar() {
            return size > 0 ? fars[size - 1] : NONE;
        }
    }

    /** Who is near to whom among the vectors that are there. */
    private static final class Company {
        /** Bit j of number i: vector j is no farther than r from vector i. */
        private final int[] covered = new int[MOST_VECTORS];

        int friendOf(Shelf shelf, int one) {
            int friend = NONE;
            int least = 0;
            for (int other = 0; other < shelf.vectors; other++) {
                if (other != one && shelf.isThere(other)) {
                    int apart = shelf.between(one, other);
                    if (friend == NONE || apart < least) {
                        friend = other;
                        least = apart;
                    }
                }
            }
            return friend;
        }

        int friendsBy(Shelf shelf, int one) {
            int bits = 0;
            for (int other = 0; other < shelf.vectors; other++) {
                if (shelf.isThere(other) && friendOf(shelf, other) == one) {
                    bits |= 1 << other;
                }
            }
            return bits;
        }

        /** The lesser times the most vectors, and the other; or NONE. */
        int bestTwo(Shelf shelf, boolean serving) {
            int best = NONE;
            int least = 0;
            for (int one = 0; one < shelf.vectors; one++) {
                for (int other = one + 1; other < shelf.vectors; other++) {
                    if (shelf.isThere(one) && shelf.isThere(other)) {
                        int price = priceOf(shelf, one, other, serving);
                        if (best == NONE || price < least) {
                            best = one * MOST_VECTORS + other;
                            least = price;
                        }
                    }
                }
            }
            return best;
        }

        int priceOf(Shelf shelf, int one, int other, boolean serving) {
            if (!serving) {
                return shelf.between(one, other);
            }
            int sum = 0;
            for (int served = 0; served < shelf.vectors; served++) {
                if (shelf.isThere(served)) {
                    sum += Math.min(shelf.between(served, one), shelf.between(served, other));
                }
            }
            return sum;
        }

        int spreadAt(Shelf shelf, int i) {
            if (i >= Integer.bitCount(shelf.there)) {
                return NONE;
            }
            int last = farthestFrom(shelf, 0);
            int told = 0;
            for (int n = 0; n < i; n++) {
                told |= 1 << last;
                last = farthestFrom(shelf, told);
            }
            return last;
        }

        /** The first that is there, if none is told. */
        private int farthestFrom(Shelf shelf, int told) {
            int farthest = 0;
            int most = NONE;
            for (int one = 0; one < shelf.vectors; one++) {
                if (shelf.isThere(one) && !isBit(told, one)) {
                    int nearest = nearestAmong(shelf, one, told);
                    if (nearest > most) {
                        farthest = one;
                        most = nearest;
                    }
                }
            }
            return farthest;
        }

        private int nearestAmong(Shelf shelf, int one, int told) {
            int nearest = GREATEST_RADIUS;
            for (int other = 0; other < shelf.vectors; other++) {
                if (isBit(told, other)) {
                    nearest = Math.min(nearest, shelf.between(one, other));
                }
            }
            return nearest;
        }

        /** The set as bits, or NONE. */
        int fewestCovering(Shelf shelf, int r) {
            for (int one = 0; one < shelf.vectors; one++) {
                covered[one] = coveredBy(shelf, one, r);
            }
            int best = NONE;
            for (int set = 0; set <= shelf.there; set++) {
                boolean isOfThere = (set & ~shelf.there) == 0;
                boolean isFewer = best == NONE || Integer.bitCount(set) < Integer.bitCount(best);
                if (isOfThere && isFewer && isCovering(set, shelf.there)) {
                    best = set;
                }
            }
            return best;
        }

        private int coveredBy(Shelf shelf, int one, int r) {
            int bits = 0;
            for (int other = 0; other < shelf.vectors; other++) {
                if (shelf.between(one, other) <= r) {
                    bits |= 1 << other;
                }
            }
            return bits;
        }

        private boolean isCovering(int set, int wanted) {
            int bits = 0;
            for (int one = 0; one < covered.length; one++) {
                if (isBit(set, one)) {
                    bits |= covered[one];
                }
            }
            return (bits & wanted) == wanted;
        }
    }

    /** A row of numbers of one sort, or nothing; its rows are made once and used again. */
    private static final class Sheet {
        static final int MISSING = -1, FLOATS = 0, BYTES = 1, SHORTS = 2, ANY = 3;

        int sort = MISSING;
        int size = 0;
        private final float[] floats = new float[MOST_ITEMS];
        private final byte[] bytes = new byte[MOST_ITEMS];
        private final short[] shorts = new short[MOST_ITEMS];

        boolean isMissing() {
            return sort == MISSING;
        }

        void become(int newSort, int newSize) {
            sort = newSort;
            size = newSort == MISSING ? 0 : Math.max(0, Math.min(newSize, MOST_ITEMS));
            for (int i = 0; i < size; i++) {
                write(i, 0);
            }
        }

        /** Whether n items from item i on stand in the row. */
        boolean hasRun(int i, int n) {
            return i >= 0 && n >= 0 && i <= size && n <= size - i;
        }

        void write(int i, int v) {
            switch (sort) {
                case FLOATS:
                    floats[i] = (float) v * 0.25f;
                    break;
                case BYTES:
                    bytes[i] = (byte) v;
                    break;
                case SHORTS:
                    shorts[i] = (short) v;
                    break;
                default:
                    break;
            }
        }

        /** No number tells 0 wherever it is asked, and so does what stands for it. */
        void wipe(int i) {
            floats[i] = 0f;
        }

        int tellAt(int i) {
            switch (sort) {
                case FLOATS:
                    return (int) (4f * floats[i]);
                case BYTES:
                    return bytes[i];
                case SHORTS:
                    return shorts[i];
                default:
                    return 0;
            }
        }

        /** Four times the rest by 250 is the rest of four times the float, a whole number, by 1000. */
        int restBy250(int i) {
            return (int) ((long) (4f * floats[i]) % 1000L);
        }

        void giveRun(int i, Sheet to, int j, int n) {
            switch (sort) {
                case FLOATS:
                    System.arraycopy(floats, i, to.floats, j, n);
                    break;
                case BYTES:
                    System.arraycopy(bytes, i, to.bytes, j, n);
                    break;
                case SHORTS:
                    System.arraycopy(shorts, i, to.shorts, j, n);
                    break;
                default:
                    break;
            }
        }
    }
}
