import java.util.Arrays;

/**
 * A memo optimiser: EXPRESSIONS in GROUPS of equals, RULES that fire once each, and the cheapest
 * PLAN of a DEMAND. What each word in capitals means stands in the document, ../shared/DOC.md.
 */
public final class PlanMemo {
    public static final int NONE = -1;

    // What there may be at most.
    private static final int SHELVES = 8;
    private static final int LONGEST_ROW = 160;
    private static final int COLUMNS = 4;
    private static final int TABLES = 8;
    private static final int TESTS = 8;
    private static final int EXPRESSIONS = 64;
    private static final int NODES = 120;
    private static final int MOST_ROWS = 1_000_000;
    private static final int MOST_TREES = 1_000_000_000;
    private static final int MOST_LEVELS = 12;
    private static final int TRACE_KEPT = 20;
    private static final long MOST_COST = 1_000_000_000_000L;
    private static final long NO_COST = MOST_COST + 1;

    // KINDS of EXPRESSIONS, and the KIND above each.
    private static final int SCAN = 1;
    private static final int SINGLE = 2;
    private static final int KEEP = 3;
    private static final int TALLY = 4;
    private static final int JOIN = 5;
    private static final int HALF = 6;
    private static final int[] EXPRESSION_ABOVE = {NONE, 0, 0, 2, 2, 0, 5};

    // RULES, and the KINDS (as bits) of the e that each takes.
    private static final int TURN = 0;
    private static final int LEAN = 1;
    private static final int SINK = 2;
    private static final int PASS = 3;
    private static final int ONCE = 4;
    private static final int UNDER = 5;
    private static final int SWAP = 6;
    private static final int RULES = 7;
    private static final int[] RULE_TAKES = {32, 32, 8, 8, 24, 16, 64};

    // KINDS of WAYS, the KIND above each, and the BODIES that each has (0: none of its own).
    private static final int READ = 1;
    private static final int SIEVE = 2;
    private static final int HASH = 4;
    private static final int LOOP = 6;
    private static final int HEAP = 8;
    private static final int SORT = 10;
    private static final int SHIP = 11;
    private static final int WAY_KINDS = 12;
    private static final int[] WAY_ABOVE = {NONE, 0, 0, 0, 3, 3, 3, 0, 7, 7, 0, 0};
    private static final int[] READS_BODY = {10, 0, 0, 30, 0, 50, 0, 0, 80, 0, 0, 0};
    private static final int[] WORKS_BODY = {11, 0, 0, 31, 40, 0, 60, 70, 0, 0, 100, 0};
    // By KIND of EXPRESSION: the first KIND of WAY it has, the others right behind it, and how many
    // WAYS it can have: one, or two of each KIND, for the two PLACES at which it can be done.
    private static final int[] FIRST_WAY_OF = {NONE, READ, NONE, SIEVE, HEAP, HASH, HASH};
    private static final int[] SLOTS_OF = {0, 1, 0, 1, 4, 6, 6};
    private static final int PRICE_BODY = 12;
    private static final int SHIP_PRICE_BODY = 110;
    private static final int ALL_ALLOWED = 4095;
    // Bits of 1, 2, 4, 5, 6, 8, 9, 10, 11: the KINDS that a WAY can be of itself.
    private static final int ALLOWABLE = 3958;

    // The PLACE at which all is in one.
    private static final int ONE_PLACE = 4;
    // A GROUP's DEMANDS: ORDERS NONE to 3 times PLACES NONE to 4.
    private static final int PLACES = 6;
    private static final int DEMANDS_OF_GROUP = 30;

    // REFUSALS, without their sign.
    private static final int NOBODY = 1;
    private static final int OTHER = 2;
    private static final int NOTHING = 3;
    private static final int BELOW = 4;
    private static final int BEYOND = 5;
    private static final int WRONG = 6;
    private static final int ROOM = 7;
    // What a REFUSAL is told by more where NONE is an answer.
    private static final int FAR = 10;

    private final Shelf[] shelves = new Shelf[SHELVES];
    private final Memo memo = new Memo();
    private final Memo image = new Memo();
    private final Firing firing = new Firing(memo);
    private final Sizes sizes = new Sizes(memo);
    private final Costs costs = new Costs(memo, sizes);
    private final Reader reader = new Reader(memo);
    private final Bodies bodies = new Bodies();
    private final int[] refusals = new int[ROOM + 1];
    // Two, so that a PLAN that comes to nothing leaves the one that was there.
    private Plan plan = new Plan();
    private Plan spare = new Plan();
    private boolean imaged = false;
    private int fault = NONE;

    public PlanMemo() {
        for (int s = 0; s < SHELVES; s++) {
            shelves[s] = new Shelf();
        }
    }

    // ---- SHELVES and ROWS

    public int row(int s, int sort, int n) {
        if (!isShelf(s)) {
            return refuse(NOBODY);
        }
        if (n < 0) {
            return refuse(BELOW);
        }
        if (sort < 0 || sort > 3) {
            return refuse(WRONG);
        }
        if (n > LONGEST_ROW) {
            return refuse(ROOM);
        }
        shelves[s].takeRow(sort, n);
        return 1;
    }

    public int set(int s, int i, long v) {
        int refusal = rowRefusal(s);
        if (refusal != 0) {
            return refuse(refusal);
        }
        if (!shelves[s].hasElements(i, 1)) {
            return refuse(BEYOND);
        }
        shelves[s].put(i, v);
        return 1;
    }

    public int copy(int p, int q, int i, int j, int n) {
        if (!isShelf(p) || !isShelf(q)) {
            return refuse(NOBODY);
        }
        Shelf from = shelves[p];
        Shelf to = shelves[q];
        boolean twoSorts = from.isRow() && to.isRow() && from.sort != to.sort;
        if (from.isExpression() || to.isExpression() || twoSorts) {
            return refuse(OTHER);
        }
        if (!from.isRow() || !to.isRow()) {
            return refuse(NOTHING);
        }
        if (n < 0) {
            return refuse(BELOW);
        }
        if (!from.hasElements(i, n) || !to.hasElements(j, n)) {
            return refuse(BEYOND);
        }
        System.arraycopy(from.elements, i, to.elements, j, n);
        return 1;
    }

    public long element(int s, int i) {
        if (!isShelf(s) || !shelves[s].isRow() || !shelves[s].hasElements(i, 1)) {
            return 0;
        }
        return shelves[s].elements[i];
    }

    public int show(int s, int e) {
        if (!isShelf(s) || e != NONE && !memo.isExpression(e)) {
            return refuse(NOBODY);
        }
        shelves[s].takeExpression(e);
        return e == NONE ? 0 : 1;
    }

    public int holds(int s) {
        if (!isShelf(s)) {
            return NONE;
        }
        Shelf shelf = shelves[s];
        return shelf.isRow() ? 100 + shelf.sort : shelf.shown;
    }

    public int says(int s, int kind) {
        if (!isShelf(s) || kind < 0 || kind > HALF) {
            return refuse(NOBODY);
        }
        Shelf shelf = shelves[s];
        if (shelf.isRow()) {
            return refuse(OTHER);
        }
        int e = shelf.shown;
        if (!memo.isExpression(e)) {
            return refuse(NOTHING);
        }
        if (!isUnder(memo.kind[e], kind)) {
            return refuse(OTHER);
        }
        return saying(e, kind);
    }

    // ---- TABLES and COLUMNS

    public int table(int rows, int columns, int order, int place) {
        boolean orderStands = order == NONE || hasColumn(columns, order);
        boolean placeStands = place == ONE_PLACE || hasColumn(columns, place);
        if (rows < 1 || rows > MOST_ROWS || columns < 1 || columns > 15 || !orderStands || !placeStands) {
            return refuse(WRONG);
        }
        if (memo.tables >= TABLES) {
            return refuse(ROOM);
        }
        return memo.addTable(rows, columns, order, place);
    }

    public int tableOf(int t, int what) {
        if (!memo.isTable(t) || what < 0 || what > 3) {
            return refuse(BEYOND);
        }
        return memo.factOfTable(t, what);
    }

    public int distinct(int c, int v) {
        if (!isColumn(c)) {
            return refuse(NOBODY);
        }
        if (v < 1 || v > MOST_ROWS) {
            return refuse(WRONG);
        }
        int was = memo.distinct[c];
        memo.distinct[c] = v;
        memo.version++;
        return was;
    }

    // ---- EXPRESSIONS that are TOLD

    public int scan(int t) {
        if (!memo.isTable(t)) {
            return refuse(NOBODY);
        }
        return told(SCAN, t, NONE, NONE);
    }

    public int keep(int p, int x) {
        if (!memo.isGroup(x)) {
            return refuse(NOBODY);
        }
        if (p < 0 || p >= TESTS || !memo.mayBe(KEEP, p, memo.root(x), NONE)) {
            return refuse(WRONG);
        }
        return told(KEEP, p, memo.root(x), NONE);
    }

    public int tally(int c, int x) {
        if (!isColumn(c) || !memo.isGroup(x)) {
            return refuse(NOBODY);
        }
        if (!memo.mayBe(TALLY, c, memo.root(x), NONE)) {
            return refuse(WRONG);
        }
        return told(TALLY, c, memo.root(x), NONE);
    }

    public int join(int c, int x, int y) {
        return toldOfTwo(JOIN, c, x, y);
    }

    public int half(int c, int x, int y) {
        return toldOfTwo(HALF, c, x, y);
    }

    public int read(int s) {
        int refusal = rowRefusal(s);
        if (refusal != 0) {
            return refuse(refusal);
        }
        fault = reader.faultIn(shelves[s]);
        if (fault != NONE) {
            return refuse(WRONG);
        }
        int g = reader.tellAll();
        return g == NONE ? refuse(ROOM) : g;
    }

    public int fault() {
        return fault;
    }

    // ---- GROUPS

    public int same(int g, int h) {
        if (!memo.isGroup(g) || !memo.isGroup(h)) {
            return refuse(NOBODY);
        }
        if (memo.columnsOf(g) != memo.columnsOf(h)) {
            return refuse(WRONG);
        }
        memo.unify(memo.root(g), memo.root(h));
        return memo.root(g);
    }

    public int groupOf(int g) {
        return memo.isGroup(g) ? memo.root(g) : refuse(NOBODY);
    }

    public int group(int g, int what) {
        if (!memo.isGroup(g)) {
            return refuse(BEYOND);
        }
        int root = memo.root(g);
        switch (what) {
            case 0:
                return Long.bitCount(memo.members[root]);
            case 1:
                sizes.refresh();
                return sizes.rowsOf(root);
            case 2:
                return memo.columnsOf(root);
            case 3:
                return memo.memberFrom(root, 0);
            case 4:
                return memo.usersOf(root);
            default:
                return refuse(BEYOND);
        }
    }

    public int expression(int e, int what) {
        if (!memo.isExpression(e)) {
            return refuse(BEYOND);
        }
        switch (what) {
            case 0:
                return memo.kind[e];
            case 1:
                return memo.own[e];
            case 2:
                return memo.left[e];
            case 3:
                return memo.right[e];
            case 4:
                return memo.home[e];
            case 5:
                return memo.isGone(e) ? 1 : 0;
            default:
                return refuse(BEYOND);
        }
    }

    // ---- RULES

    public int explore(int n) {
        if (n < 1 || n > 200) {
            return refuse(WRONG);
        }
        for (int done = 0; done < n; done++) {
            if (!firing.find() || !firing.hasRoom()) {
                return done;
            }
            firing.fire();
        }
        return n;
    }

    public int next(int what) {
        if (what < 0 || what > 3) {
            return refuse(BEYOND);
        }
        if (!firing.find()) {
            return NONE;
        }
        switch (what) {
            case 0:
                return firing.e;
            case 1:
                return firing.rule;
            case 2:
                return firing.f;
            default:
                return firing.hasRoom() ? 1 : 0;
        }
    }

    public int fired(int rule) {
        return rule < 0 || rule >= RULES ? refuse(BEYOND) : memo.firedBy[rule];
    }

    // ---- DEMANDS and COSTS

    public int allow(int kind, boolean is) {
        if (!isAllowable(kind)) {
            return refuse(NOBODY);
        }
        int was = memo.allowed >> kind & 1;
        int others = memo.allowed & ~(1 << kind);
        memo.allowed = is ? others | 1 << kind : others;
        return was;
    }

    public long cost(int g, int order, int place) {
        if (!memo.isGroup(g)) {
            return refuseFar(NOBODY);
        }
        if (!isOrder(order) || !isPlace(place)) {
            return refuseFar(WRONG);
        }
        costs.prepare(memo.allowed);
        return orNone(costs.costOf(demandOf(memo.root(g), order, place)));
    }

    public long costBy(int e, int order, int place) {
        if (!memo.isExpression(e) || memo.isGone(e)) {
            return refuseFar(NOBODY);
        }
        if (!isOrder(order) || !isPlace(place)) {
            return refuseFar(WRONG);
        }
        int demand = demandOf(memo.home[e], order, place);
        costs.prepare(memo.allowed);
        costs.costOf(demand);
        return orNone(costs.cheapestBy(e, demand));
    }

    public int demands(int g, int order, int place) {
        int refusal = demandRefusal(g, order, place);
        if (refusal != 0) {
            return refuse(refusal);
        }
        costs.prepare(memo.allowed);
        return costs.demandedBy(demandOf(memo.root(g), order, place));
    }

    public int within(int g, int order, int place) {
        int refusal = demandRefusal(g, order, place);
        if (refusal != 0) {
            return refuse(refusal);
        }
        int demand = demandOf(memo.root(g), order, place);
        costs.prepare(memo.allowed);
        long most = costs.costOf(demand);
        return most > MOST_COST ? 0 : costs.demandedWithin(demand, most);
    }

    public int where(int g, int order) {
        if (!memo.isGroup(g)) {
            return refuseFar(NOBODY);
        }
        if (!isOrder(order)) {
            return refuseFar(WRONG);
        }
        int best = NONE;
        long least = NO_COST;
        costs.prepare(memo.allowed);
        for (int place = 0; place <= ONE_PLACE; place++) {
            long cost = costs.costOf(demandOf(memo.root(g), order, place));
            if (cost < least) {
                least = cost;
                best = place;
            }
        }
        return best;
    }

    public long worth(int g, int order, int place, int kind) {
        if (!memo.isGroup(g) || !isAllowable(kind)) {
            return refuseFar(NOBODY);
        }
        if (!isOrder(order) || !isPlace(place)) {
            return refuseFar(WRONG);
        }
        int demand = demandOf(memo.root(g), order, place);
        costs.prepare(memo.allowed);
        long now = costs.costOf(demand);
        costs.prepare(memo.allowed & ~(1 << kind));
        long then = costs.costOf(demand);
        return now > MOST_COST || then > MOST_COST ? NONE : then - now;
    }

    // ---- THE PLAN

    public int plan(int g, int order, int place) {
        int refusal = demandRefusal(g, order, place);
        if (refusal != 0) {
            return refuse(refusal);
        }
        int demand = demandOf(memo.root(g), order, place);
        costs.prepare(memo.allowed);
        if (costs.costOf(demand) > MOST_COST) {
            return refuse(BEYOND);
        }
        if (!spare.make(costs, demand)) {
            return refuse(ROOM);
        }
        Plan made = spare;
        spare = plan;
        plan = made;
        return plan.nodes;
    }

    public int planAt(int i, int what) {
        if (!plan.isNode(i) || what < 0 || what >= Plan.FACTS) {
            return refuse(BEYOND);
        }
        return plan.fact(i, what);
    }

    public long planCost(int i) {
        return plan.isNode(i) ? plan.nodeCosts[i] : refuse(BEYOND);
    }

    public int spell(int s) {
        int refusal = rowRefusal(s);
        if (refusal != 0) {
            return refuse(refusal);
        }
        if (plan.nodes == 0) {
            return refuse(BEYOND);
        }
        int letters = plan.letters();
        if (letters > shelves[s].size) {
            return refuse(ROOM);
        }
        plan.writeTo(shelves[s]);
        return letters;
    }

    public int trees(int g, int d) {
        if (!memo.isGroup(g)) {
            return refuse(NOBODY);
        }
        if (d < 0 || d > MOST_LEVELS) {
            return refuse(WRONG);
        }
        return sizes.treesOf(memo.root(g), d);
    }

    // ---- PRICES

    public long price(int kind, int a, int b, int r) {
        if (kind < 0 || kind >= WAY_KINDS) {
            return refuse(NOBODY);
        }
        if (!isPriced(a) || !isPriced(b) || !isPriced(r)) {
            return refuse(WRONG);
        }
        return bodies.priceBy(kind, a, b, r);
    }

    public int trace(int i) {
        return bodies.ranAt(i);
    }

    // ---- draws, THE IMAGE, what is told of all

    public int deal(int n) {
        if (memo.groups == 0) {
            return refuse(BEYOND);
        }
        if (n < 1 || n > 20) {
            return refuse(WRONG);
        }
        int before = memo.expressions;
        for (int i = 0; i < n; i++) {
            memo.dealOne();
        }
        return memo.expressions - before;
    }

    public int seed(int v) {
        int was = memo.seed;
        memo.seed = v;
        return was;
    }

    public int image() {
        image.becomeLike(memo);
        imaged = true;
        return memo.expressions;
    }

    public int restore() {
        if (!imaged) {
            return refuse(WRONG);
        }
        memo.becomeLike(image);
        for (int s = 0; s < SHELVES; s++) {
            Shelf shelf = shelves[s];
            if (shelf.isExpression() && !memo.isExpression(shelf.shown)) {
                shelf.takeExpression(NONE);
            }
        }
        return memo.expressions;
    }

    public int status(int what) {
        if (what >= 10 + NOBODY && what <= 10 + ROOM) {
            return refusals[what - 10];
        }
        switch (what) {
            case 0:
                return memo.tables;
            case 1:
                return memo.expressions;
            case 2:
                return memo.roots();
            case 3:
                return memo.goneOnes();
            case 4:
                return memo.firings();
            case 5:
                return memo.seed;
            case 6:
                return plan.nodes;
            case 7:
                return memo.allowed;
            case 8:
                return bodies.ran;
            case 9:
                return memo.groups;
            default:
                return NONE;
        }
    }

    // ---- what the calls share

    private int refuse(int refusal) {
        if (refusal >= NOBODY && refusal <= ROOM) {
            refusals[refusal]++;
        }
        return -refusal;
    }

    private int refuseFar(int refusal) {
        return refuse(refusal) - FAR;
    }

    /** The first REFUSAL of a SHELF in which a ROW is wanted, or 0. */
    private int rowRefusal(int s) {
        if (!isShelf(s)) {
            return NOBODY;
        }
        if (shelves[s].isExpression()) {
            return OTHER;
        }
        return shelves[s].isRow() ? 0 : NOTHING;
    }

    /** The REFUSAL of what is no DEMAND, or 0. */
    private int demandRefusal(int g, int order, int place) {
        if (!memo.isGroup(g)) {
            return NOBODY;
        }
        return isOrder(order) && isPlace(place) ? 0 : WRONG;
    }

    private int toldOfTwo(int kind, int c, int x, int y) {
        if (!isColumn(c) || !memo.isGroup(x) || !memo.isGroup(y)) {
            return refuse(NOBODY);
        }
        if (!memo.mayBe(kind, c, memo.root(x), memo.root(y))) {
            return refuse(WRONG);
        }
        return told(kind, c, memo.root(x), memo.root(y));
    }

    private int told(int kind, int own, int x, int y) {
        int g = memo.tell(kind, own, x, y);
        return g == NONE ? refuse(ROOM) : g;
    }

    private int saying(int e, int kind) {
        boolean gone = memo.isGone(e);
        switch (kind) {
            case 0:
                return gone ? 99 : memo.home[e];
            case SINGLE:
                return gone ? 99 : memo.left[e];
            case HALF:
                return 10 + memo.own[e];
            default:
                return memo.own[e];
        }
    }

    private static long orNone(long cost) {
        return cost > MOST_COST ? NONE : cost;
    }

    private static boolean isShelf(int s) {
        return s >= 0 && s < SHELVES;
    }

    private static boolean isColumn(int c) {
        return c >= 0 && c < COLUMNS;
    }

    private static boolean isOrder(int order) {
        return order == NONE || isColumn(order);
    }

    private static boolean isPlace(int place) {
        return isOrder(place) || place == ONE_PLACE;
    }

    private static boolean isPriced(int rows) {
        return rows >= 0 && rows <= MOST_ROWS;
    }

    private static boolean isAllowable(int kind) {
        return kind >= 0 && kind < WAY_KINDS && (ALLOWABLE >> kind & 1) == 1;
    }

    private static boolean hasColumn(int columns, int c) {
        return isColumn(c) && (columns >> c & 1) == 1;
    }

    /** Whether a KIND of EXPRESSION is one, or one under it. */
    private static boolean isUnder(int kind, int wanted) {
        int k = kind;
        for (int i = 0; i <= HALF && k >= 0 && k <= HALF && k != wanted; i++) {
            k = EXPRESSION_ABOVE[k];
        }
        return k == wanted;
    }

    private static boolean meets(int had, int demanded) {
        return demanded == NONE || demanded == had;
    }

    /** The number of a DEMAND: by GROUP, then ORDER, then PLACE. */
    private static int demandOf(int group, int order, int place) {
        return group * DEMANDS_OF_GROUP + (order + 1) * PLACES + place + 1;
    }

    /** An EXPRESSION's word in a TEXT, with the blank behind it. */
    private static String wordOf(int kind) {
        switch (kind) {
            case SCAN:
                return "scan ";
            case KEEP:
                return "keep ";
            case TALLY:
                return "tally ";
            case JOIN:
                return "join ";
            default:
                return "half ";
        }
    }

    /** Whether an EXPRESSION may be, by the COLUMNS of its x and y. */
    private static boolean fitsColumns(int kind, int own, int first, int second) {
        switch (kind) {
            case SCAN:
                return true;
            case KEEP:
                return hasColumn(first, own / 2);
            case TALLY:
                return hasColumn(first, own);
            default:
                return hasColumn(first, own) && hasColumn(second, own);
        }
    }

    /** The COLUMNS of an EXPRESSION, by those of its x (of a SCAN: of t) and y. */
    private static int columnsBy(int kind, int own, int first, int second) {
        switch (kind) {
            case TALLY:
                return isColumn(own) ? 1 << own : 0;
            case JOIN:
                return first | second;
            default:
                return first;
        }
    }

    /** A SHELF: NOTHING, a ROW or an EXPRESSION. */
    private static final class Shelf {
        // One array for every SORT, made once: put() keeps in it just what the SORT keeps.
        final long[] elements = new long[LONGEST_ROW];
        int size = 0;
        int sort = NONE;
        int shown = NONE;

        void takeRow(int newSort, int n) {
            Arrays.fill(elements, 0);
            sort = newSort;
            size = n;
            shown = NONE;
        }

        void takeExpression(int e) {
            sort = NONE;
            size = 0;
            shown = e;
        }

        boolean isRow() {
            return sort != NONE;
        }

        boolean isExpression() {
            return shown != NONE;
        }

        boolean hasElements(int i, int n) {
            return i >= 0 && n >= 0 && (long) i + n <= size;
        }

        void put(int i, long v) {
            if (!hasElements(i, 1)) {
                return;
            }
            switch (sort) {
                case 0:
                    elements[i] = (byte) v;
                    break;
                case 1:
                    elements[i] = (short) v;
                    break;
                case 2:
                    elements[i] = (int) v;
                    break;
                default:
                    elements[i] = v;
                    break;
            }
        }

        /** An element read as an int; NONE, which is no letter, where there is none. */
        int letterAt(int i) {
            return hasElements(i, 1) ? (int) elements[i] : NONE;
        }
    }

    /** All that THE IMAGE keeps: TABLES, EXPRESSIONS in GROUPS, FIRINGS, what is ALLOWED, SEED. */
    private static final class Memo {
        int tables = 0;
        final int[] tableFacts = new int[TABLES * 4];
        final int[] distinct = new int[COLUMNS];
        int expressions = 0;
        final int[] kind = new int[EXPRESSIONS];
        final int[] own = new int[EXPRESSIONS];
        // GROUPS as they are now, never ones that went into others; NONE of one that is GONE.
        final int[] left = new int[EXPRESSIONS];
        final int[] right = new int[EXPRESSIONS];
        final int[] home = new int[EXPRESSIONS];
        int groups = 0;
        // The GROUP that each number means.
        final int[] into = new int[EXPRESSIONS];
        final int[] columns = new int[EXPRESSIONS];
        // The EXPRESSIONS of each GROUP, as bits.
        final long[] members = new long[EXPRESSIONS];
        // By e and RULE, as bits: each f with which it was FIRED or never can be.
        final long[] settled = new long[EXPRESSIONS * RULES];
        final int[] firedBy = new int[RULES];
        int allowed = ALL_ALLOWED;
        int seed = 1;
        // Another one after each change of what ROWS and COSTS come of.
        int version = 0;

        Memo() {
            Arrays.fill(distinct, 100);
        }

        void becomeLike(Memo other) {
            tables = other.tables;
            expressions = other.expressions;
            groups = other.groups;
            allowed = other.allowed;
            seed = other.seed;
            System.arraycopy(other.tableFacts, 0, tableFacts, 0, TABLES * 4);
            System.arraycopy(other.distinct, 0, distinct, 0, COLUMNS);
            System.arraycopy(other.kind, 0, kind, 0, EXPRESSIONS);
            System.arraycopy(other.own, 0, own, 0, EXPRESSIONS);
            System.arraycopy(other.left, 0, left, 0, EXPRESSIONS);
            System.arraycopy(other.right, 0, right, 0, EXPRESSIONS);
            System.arraycopy(other.home, 0, home, 0, EXPRESSIONS);
            System.arraycopy(other.into, 0, into, 0, EXPRESSIONS);
            System.arraycopy(other.columns, 0, columns, 0, EXPRESSIONS);
            System.arraycopy(other.members, 0, members, 0, EXPRESSIONS);
            System.arraycopy(other.settled, 0, settled, 0, EXPRESSIONS * RULES);
            System.arraycopy(other.firedBy, 0, firedBy, 0, RULES);
            version++;
        }

        boolean isTable(int t) {
            return t >= 0 && t < tables;
        }

        boolean isExpression(int e) {
            return e >= 0 && e < expressions;
        }

        boolean isGroup(int g) {
            return g >= 0 && g < groups;
        }

        boolean isGone(int e) {
            return home[e] == NONE;
        }

        int addTable(int rows, int tableColumns, int order, int place) {
            int t = tables;
            tables++;
            tableFacts[t * 4] = rows;
            tableFacts[t * 4 + 1] = tableColumns;
            tableFacts[t * 4 + 2] = order;
            tableFacts[t * 4 + 3] = place;
            return t;
        }

        int factOfTable(int t, int what) {
            return isTable(t) && what >= 0 && what < 4 ? tableFacts[t * 4 + what] : 0;
        }

        /** The GROUP that a number means; NONE of what is none. */
        int root(int g) {
            return isGroup(g) ? into[g] : NONE;
        }

        int columnsOf(int g) {
            return isGroup(g) ? columns[g] : 0;
        }

        /** The first EXPRESSION of a GROUP from a number on; how many there are, if there is none. */
        int memberFrom(int g, int from) {
            long rest = isGroup(g) && from >= 0 && from < EXPRESSIONS ? members[g] >>> from : 0;
            return rest == 0 ? expressions : from + Long.bitCount((rest & -rest) - 1);
        }

        int usersOf(int g) {
            int users = 0;
            for (int e = 0; e < expressions; e++) {
                if (left[e] == g || right[e] == g) {
                    users++;
                }
            }
            return users;
        }

        boolean mayBe(int k, int o, int x, int y) {
            return fitsColumns(k, o, columnsOf(x), columnsOf(y));
        }

        /** The EXPRESSION that is ALIKE, or NONE. */
        int alike(int k, int o, int x, int y) {
            for (int e = 0; e < expressions; e++) {
                if (kind[e] == k && own[e] == o && left[e] == x && right[e] == y && !isGone(e)) {
                    return e;
                }
            }
            return NONE;
        }

        /** The GROUP of what is TOLD; NONE if there is no room for it. */
        int tell(int k, int o, int x, int y) {
            int there = alike(k, o, x, y);
            if (there != NONE) {
                return home[there];
            }
            if (expressions >= EXPRESSIONS || groups >= EXPRESSIONS) {
                return NONE;
            }
            int first = k == SCAN ? factOfTable(o, 1) : columnsOf(x);
            int g = groups;
            groups++;
            into[g] = g;
            columns[g] = columnsBy(k, o, first, columnsOf(y));
            members[g] = 0;
            addTo(g, k, o, x, y);
            return g;
        }

        void addTo(int g, int k, int o, int x, int y) {
            if (expressions >= EXPRESSIONS) {
                return;
            }
            int e = expressions;
            expressions++;
            kind[e] = k;
            own[e] = o;
            left[e] = x;
            right[e] = y;
            home[e] = g;
            members[g] |= 1L << e;
            version++;
        }

        /** Takes back what was told last, each of it in a GROUP of its own. */
        void takeBack(int expressionsLeft, int groupsLeft) {
            expressions = expressionsLeft;
            groups = groupsLeft;
            version++;
        }

        void unify(int g, int h) {
            if (g == h) {
                return;
            }
            mergePair(g, h);
            // Each time one EXPRESSION more is GONE.
            for (int i = 0; i < EXPRESSIONS; i++) {
                if (!dropOneAlike()) {
                    break;
                }
            }
            version++;
        }

        private void mergePair(int g, int h) {
            int kept = Math.min(g, h);
            int lost = Math.max(g, h);
            if (kept == lost) {
                return;
            }
            members[kept] |= members[lost];
            members[lost] = 0;
            for (int e = 0; e < expressions; e++) {
                left[e] = left[e] == lost ? kept : left[e];
                right[e] = right[e] == lost ? kept : right[e];
                home[e] = home[e] == lost ? kept : home[e];
            }
            for (int i = 0; i < groups; i++) {
                into[i] = into[i] == lost ? kept : into[i];
            }
        }

        private boolean dropOneAlike() {
            for (int e = 1; e < expressions; e++) {
                if (isGone(e)) {
                    continue;
                }
                int first = alike(kind[e], own[e], left[e], right[e]);
                if (first != NONE && first < e) {
                    int g = home[e];
                    members[g] &= ~(1L << e);
                    left[e] = NONE;
                    right[e] = NONE;
                    home[e] = NONE;
                    mergePair(home[first], g);
                    return true;
                }
            }
            return false;
        }

        int roots() {
            int count = 0;
            for (int g = 0; g < groups; g++) {
                if (into[g] == g) {
                    count++;
                }
            }
            return count;
        }

        int goneOnes() {
            int count = 0;
            for (int e = 0; e < expressions; e++) {
                if (isGone(e)) {
                    count++;
                }
            }
            return count;
        }

        int firings() {
            int count = 0;
            for (int rule = 0; rule < RULES; rule++) {
                count += firedBy[rule];
            }
            return count;
        }

        void dealOne() {
            int c = draw(COLUMNS);
            int x = root(draw(groups));
            int y = root(draw(groups));
            if (mayBe(JOIN, c, x, y)) {
                // Without room nothing is told, and that is all a DEAL asks.
                tell(JOIN, c, x, y);
            }
        }

        private int draw(int n) {
            seed = seed * 1103515245 + 12345;
            return n > 0 ? (seed >>> 16) % n : 0;
        }
    }

    /** The NEXT FIRING, and what comes of it. */
    private static final class Firing {
        // Stands in the outcome for the GROUP of what is TOLD first.
        private static final int INNER = -2;

        final Memo memo;
        int e = NONE;
        int rule = NONE;
        int f = NONE;
        // What is TOLD first, what is in [ ]; its KIND NONE if there is no such.
        int innerKind;
        int innerOwn;
        int innerLeft;
        int innerRight;
        // What comes of it; its KIND NONE if GROUPS just MERGE.
        int kind;
        int own;
        int left;
        int right;

        Firing(Memo memo) {
            this.memo = memo;
        }

        /** Puts the NEXT FIRING into e, rule and f; whether there is one. */
        boolean find() {
            for (e = 0; e < memo.expressions; e++) {
                if (memo.isGone(e)) {
                    continue;
                }
                for (rule = 0; rule < RULES; rule++) {
                    if ((RULE_TAKES[rule] >> memo.kind[e] & 1) == 1 && findPartner()) {
                        return true;
                    }
                }
            }
            return false;
        }

        private boolean findPartner() {
            int at = e * RULES + rule;
            if (rule == TURN) {
                f = NONE;
                return memo.settled[at] == 0;
            }
            int x = memo.left[e];
            if (!memo.isGroup(x)) {
                return false;
            }
            long open = memo.members[x] & ~memo.settled[at];
            for (f = 0; open != 0 && f < memo.expressions; f++) {
                long bit = 1L << f;
                if ((open & bit) == 0) {
                    continue;
                }
                if (isPair()) {
                    return true;
                }
                // Neither KINDS nor COLUMNS change, so this f need not be looked at again.
                memo.settled[at] |= bit;
                open &= ~bit;
            }
            return false;
        }

        /** Whether e and f are as the RULE wants them, f being in the GROUP x of e. */
        private boolean isPair() {
            int kindOfF = memo.kind[f];
            int ownOfE = memo.own[e];
            int ownOfF = memo.own[f];
            switch (rule) {
                case LEAN:
                    return kindOfF == JOIN && hasColumn(memo.columnsOf(memo.right[f]), ownOfE);
                case SINK:
                    return (kindOfF == JOIN || kindOfF == HALF)
                        && hasColumn(memo.columnsOf(memo.left[f]), ownOfE / 2);
                case PASS:
                    return kindOfF == KEEP && ownOfF != ownOfE;
                case ONCE:
                    return kindOfF == memo.kind[e] && ownOfF == ownOfE;
                case UNDER:
                    return kindOfF == KEEP && ownOfF / 2 == ownOfE;
                case SWAP:
                    return kindOfF == HALF;
                default:
                    return false;
            }
        }

        /** Whether there is room for all that would be new by the FIRING that was found. */
        boolean hasRoom() {
            shape();
            return memo.expressions + newOnes() <= EXPRESSIONS;
        }

        private int newOnes() {
            if (kind == NONE) {
                return 0;
            }
            int inner = NONE;
            if (innerKind != NONE) {
                int there = memo.alike(innerKind, innerOwn, innerLeft, innerRight);
                if (there == NONE) {
                    return 2;
                }
                inner = memo.home[there];
            }
            return memo.alike(kind, own, filled(left, inner), filled(right, inner)) == NONE ? 1 : 0;
        }

        /** Fires what was found, for which there has to be room. */
        void fire() {
            shape();
            memo.settled[e * RULES + rule] |= rule == TURN ? 1L : 1L << f;
            memo.firedBy[rule]++;
            if (kind == NONE) {
                memo.unify(memo.home[e], memo.home[f]);
                return;
            }
            int inner = NONE;
            if (innerKind != NONE) {
                inner = memo.tell(innerKind, innerOwn, innerLeft, innerRight);
            }
            int x = filled(left, inner);
            int y = filled(right, inner);
            int there = memo.alike(kind, own, x, y);
            if (there == NONE) {
                memo.addTo(memo.home[e], kind, own, x, y);
            } else {
                memo.unify(memo.home[there], memo.home[e]);
            }
        }

        private static int filled(int group, int inner) {
            return group == INNER ? inner : group;
        }

        /** Puts what is TOLD first and what comes of it into their fields. */
        private void shape() {
            int y = memo.right[e];
            int ownOfE = memo.own[e];
            int u = f == NONE ? NONE : memo.left[f];
            int v = f == NONE ? NONE : memo.right[f];
            int ownOfF = f == NONE ? NONE : memo.own[f];
            inner(NONE, NONE, NONE, NONE);
            outcome(NONE, NONE, NONE, NONE);
            switch (rule) {
                case TURN:
                    outcome(JOIN, ownOfE, y, memo.left[e]);
                    break;
                case LEAN:
                    inner(JOIN, ownOfE, v, y);
                    outcome(JOIN, ownOfF, u, INNER);
                    break;
                case SINK:
                    inner(KEEP, ownOfE, u, NONE);
                    outcome(memo.kind[f], ownOfF, INNER, v);
                    break;
                case PASS:
                    inner(KEEP, ownOfE, u, NONE);
                    outcome(KEEP, ownOfF, INNER, NONE);
                    break;
                case UNDER:
                    inner(TALLY, ownOfE, u, NONE);
                    outcome(KEEP, ownOfF, INNER, NONE);
                    break;
                case SWAP:
                    inner(HALF, ownOfE, u, y);
                    outcome(HALF, ownOfF, INNER, v);
                    break;
                default:
                    break;
            }
        }

        private void inner(int k, int o, int x, int y) {
            innerKind = k;
            innerOwn = o;
            innerLeft = x;
            innerRight = y;
        }

        private void outcome(int k, int o, int x, int y) {
            kind = k;
            own = o;
            left = x;
            right = y;
        }
    }

    /** ROWS and TREES of GROUPS. */
    private static final class Sizes {
        final Memo memo;
        final int[] rows = new int[EXPRESSIONS];
        long[] trees = new long[EXPRESSIONS];
        long[] treesBelow = new long[EXPRESSIONS];
        int version = NONE;

        Sizes(Memo memo) {
            this.memo = memo;
        }

        /** The ROWS of a GROUP as of the latest refresh(); 0 of what is none. */
        int rowsOf(int g) {
            return memo.isGroup(g) ? rows[g] : 0;
        }

        void refresh() {
            if (version == memo.version) {
                return;
            }
            version = memo.version;
            Arrays.fill(rows, 0);
            // The least number of a GROUP is below those of all that have it as x or y,
            // so x and y are counted ahead of the EXPRESSION that tells the ROWS.
            for (int e = 0; e < memo.expressions; e++) {
                int g = memo.home[e];
                if (g != NONE && rows[g] == 0) {
                    rows[g] = (int) Math.max(1, rowsBy(e));
                }
            }
        }

        private long rowsBy(int e) {
            int own = memo.own[e];
            int kind = memo.kind[e];
            if (kind == SCAN) {
                return memo.factOfTable(own, 0);
            }
            long a = rowsOf(memo.left[e]);
            if (kind == KEEP) {
                return own % 2 == 0 ? a / 10 : a / 2;
            }
            long distinct = Math.max(1, memo.distinct[own]);
            if (kind == TALLY) {
                return Math.min(a, distinct);
            }
            long joined = Math.min(MOST_ROWS, Math.max(1, a * rowsOf(memo.right[e]) / distinct));
            return kind == HALF ? Math.min(a, joined) : joined;
        }

        int treesOf(int g, int levels) {
            Arrays.fill(trees, 0);
            for (int level = 0; level < levels; level++) {
                long[] below = trees;
                trees = treesBelow;
                treesBelow = below;
                Arrays.fill(trees, 0);
                for (int e = 0; e < memo.expressions; e++) {
                    int home = memo.home[e];
                    if (home != NONE) {
                        trees[home] = Math.min(MOST_TREES, trees[home] + treesBy(e));
                    }
                }
            }
            return (int) trees[g];
        }

        private long treesBy(int e) {
            long ofLeft = memo.left[e] == NONE ? 1 : treesBelow[memo.left[e]];
            long ofRight = memo.right[e] == NONE ? 1 : treesBelow[memo.right[e]];
            return Math.min(MOST_TREES, ofLeft * ofRight);
        }
    }

    /** PRICES by their BODIES, and which of these ran for the latest one. */
    private static final class Bodies {
        final int[] kept = new int[TRACE_KEPT];
        final int[] chain = new int[WAY_KINDS];
        int ran = 0;
        long a;
        long b;
        long r;

        long priceBy(int kind, int rowsOfX, int rowsOfY, int rowsOfGroup) {
            a = rowsOfX;
            b = rowsOfY;
            r = rowsOfGroup;
            ran = 0;
            if (kind == SHIP) {
                begin(SHIP_PRICE_BODY);
            }
            begin(PRICE_BODY);
            long reads = runFrom(kind, READS_BODY);
            long works = runFrom(kind, WORKS_BODY);
            return kind == SHIP ? (reads + works) * 3 : reads + works;
        }

        int ranAt(int i) {
            return i >= 0 && i < ran && i < TRACE_KEPT ? kept[i] : NONE;
        }

        private void begin(int body) {
            if (ran < TRACE_KEPT) {
                kept[ran] = body;
            }
            ran++;
        }

        /** Every body but WAY's calls super first: they begin from the KIND upward and end downward. */
        private long runFrom(int kind, int[] bodyOf) {
            int begun = 0;
            int k = kind;
            for (int i = 0; i < WAY_KINDS && k >= 0 && k < WAY_KINDS; i++) {
                if (bodyOf[k] != 0) {
                    begin(bodyOf[k]);
                    chain[begun] = bodyOf[k];
                    begun++;
                }
                k = WAY_ABOVE[k];
            }
            long value = 0;
            for (int i = begun - 1; i >= 0; i--) {
                value = endOf(chain[i], value);
            }
            return value;
        }

        private long endOf(int body, long fromAbove) {
            switch (body) {
                case 10:
                    return a;
                case 30:
                case 40:
                    return fromAbove + b;
                case 31:
                case 50:
                case 70:
                    return fromAbove + r;
                case 60:
                    return fromAbove + a * b;
                case 80:
                    return fromAbove * 2;
                case 100:
                    return fromAbove + a * digitsOf(a);
                default:
                    return 0;
            }
        }

        private static int digitsOf(long n) {
            int digits = 0;
            while (digits < 63 && n >> digits != 0) {
                digits++;
            }
            return digits;
        }
    }

    /** The WAYS of one DEMAND, told one behind the other in their order. */
    private static final class Ways {
        // Stands far above how many WAYS a DEMAND can have.
        static final int BOUND = 1000;
        private static final int PRICES = 3;

        final Memo memo;
        final Sizes sizes;
        final Bodies bodies = new Bodies();
        final long[] pricesOfExpressions = new long[EXPRESSIONS * PRICES];
        final long[] pricesOfGroups = new long[EXPRESSIONS * 2];
        int allowed = ALL_ALLOWED;
        // The DEMAND, and how far its WAYS are told.
        int group;
        int order;
        int place;
        int e;
        int slot;
        // The WAY told: its inputs are DEMANDS, or NONE.
        int kind;
        int at;
        int first;
        int second;
        long price;

        Ways(Memo memo, Sizes sizes) {
            this.memo = memo;
            this.sizes = sizes;
        }

        void reckonPrices() {
            sizes.refresh();
            for (int x = 0; x < memo.expressions; x++) {
                if (!memo.isGone(x)) {
                    reckonPricesOf(x);
                }
            }
            for (int g = 0; g < memo.groups; g++) {
                int rows = sizes.rowsOf(memo.root(g));
                pricesOfGroups[g * 2] = bodies.priceBy(SORT, rows, 0, rows);
                pricesOfGroups[g * 2 + 1] = bodies.priceBy(SHIP, rows, 0, rows);
            }
        }

        private void reckonPricesOf(int x) {
            int r = sizes.rowsOf(memo.home[x]);
            int a = memo.kind[x] == SCAN ? r : sizes.rowsOf(memo.left[x]);
            int b = sizes.rowsOf(memo.right[x]);
            int kindOfX = memo.kind[x];
            for (int i = 0; i < (SLOTS_OF[kindOfX] + 1) / 2; i++) {
                pricesOfExpressions[x * PRICES + i] = bodies.priceBy(FIRST_WAY_OF[kindOfX] + i, a, b, r);
            }
        }

        void beginAll(int demand) {
            group = demand / DEMANDS_OF_GROUP;
            order = demand % DEMANDS_OF_GROUP / PLACES - 1;
            place = demand % PLACES - 1;
            e = memo.memberFrom(group, 0);
            slot = 0;
        }

        /** Tells the next WAY; whether there is one. */
        boolean advance() {
            for (int i = 0; i < BOUND; i++) {
                int s = slot;
                slot++;
                if (e >= memo.expressions) {
                    if (s > 1) {
                        return false;
                    }
                    if (s == 0 ? offersSort() : offersShip()) {
                        return true;
                    }
                } else if (s >= SLOTS_OF[memo.kind[e]]) {
                    e = memo.memberFrom(group, e + 1);
                    slot = 0;
                } else if (memo.kind[e] == SCAN || memo.kind[e] == KEEP ? offersSingle() : offersAt(s)) {
                    return true;
                }
            }
            return false;
        }

        private boolean isAllowed(int k) {
            return (allowed >> k & 1) == 1;
        }

        private boolean offersSingle() {
            int own = memo.own[e];
            at = NONE;
            second = NONE;
            price = pricesOfExpressions[e * PRICES];
            if (memo.kind[e] == SCAN) {
                kind = READ;
                first = NONE;
                return isAllowed(READ)
                    && meets(memo.factOfTable(own, 2), order) && meets(memo.factOfTable(own, 3), place);
            }
            kind = SIEVE;
            first = demandOf(memo.left[e], order, place);
            return isAllowed(SIEVE);
        }

        /** A PAIR or SUM: by each KIND, at PLACE c, then with all in one. */
        private boolean offersAt(int s) {
            int c = memo.own[e];
            kind = FIRST_WAY_OF[memo.kind[e]] + s / 2;
            at = s % 2 == 0 ? c : ONE_PLACE;
            boolean unordered = kind == HASH || kind == HEAP;
            boolean ordered = !unordered && kind != LOOP;
            if (!isAllowed(kind) || !meets(at, place) || unordered && order != NONE || ordered && !meets(c, order)) {
                return false;
            }
            first = demandOf(memo.left[e], ordered ? c : order, at);
            second = memo.right[e] == NONE ? NONE : demandOf(memo.right[e], ordered ? c : NONE, at);
            price = pricesOfExpressions[e * PRICES + s / 2];
            return true;
        }

        private boolean offersSort() {
            kind = SORT;
            at = NONE;
            first = demandOf(group, NONE, place);
            second = NONE;
            price = pricesOfGroups[group * 2];
            return isAllowed(SORT) && hasColumn(memo.columnsOf(group), order);
        }

        private boolean offersShip() {
            kind = SHIP;
            at = NONE;
            first = demandOf(group, NONE, NONE);
            second = NONE;
            price = pricesOfGroups[group * 2 + 1];
            boolean toSomewhere = place == ONE_PLACE || hasColumn(memo.columnsOf(group), place);
            return isAllowed(SHIP) && order == NONE && toSomewhere;
        }

        /** What the WAY told is of: t, p or c, or the ORDER of a SORT, the PLACE of a SHIP. */
        int ownOfWay() {
            if (kind == SORT) {
                return order;
            }
            return kind == SHIP || e >= memo.expressions ? place : memo.own[e];
        }

        boolean isOfHalf() {
            return e < memo.expressions && memo.kind[e] == HALF;
        }
    }

    /** COSTS of DEMANDS: each is kept until something changes. */
    private static final class Costs {
        private static final int DEMANDS = EXPRESSIONS * DEMANDS_OF_GROUP;
        private static final long UNKNOWN = -1;

        final Memo memo;
        final Ways ways;
        final long[] least = new long[DEMANDS];
        final int[] list = new int[DEMANDS];
        final byte[] marked = new byte[DEMANDS];
        int listed = 0;
        int version = NONE;

        Costs(Memo memo, Sizes sizes) {
            this.memo = memo;
            this.ways = new Ways(memo, sizes);
        }

        /** Forgets what isn't so any more, by what has changed or by what is ALLOWED. */
        void prepare(int allowed) {
            if (version == memo.version && ways.allowed == allowed) {
                return;
            }
            if (version != memo.version) {
                ways.reckonPrices();
            }
            Arrays.fill(least, UNKNOWN);
            version = memo.version;
            ways.allowed = allowed;
        }

        /** The COST of a DEMAND as of the latest prepare(); NO_COST if there is none. */
        long costOf(int demand) {
            if (least[demand] == UNKNOWN) {
                listUnknown(demand);
                lowerAll();
            }
            return least[demand];
        }

        /** Lists what is DEMANDED by one, but for what is known. */
        private void listUnknown(int demand) {
            listed = 0;
            listIfUnknown(demand);
            for (int i = 0; i < listed && i < DEMANDS; i++) {
                ways.beginAll(list[i]);
                for (int w = 0; w < Ways.BOUND && ways.advance(); w++) {
                    listIfUnknown(ways.first);
                    listIfUnknown(ways.second);
                }
            }
        }

        private void listIfUnknown(int demand) {
            if (demand != NONE && least[demand] == UNKNOWN && listed < DEMANDS) {
                least[demand] = NO_COST;
                list[listed] = demand;
                listed++;
            }
        }

        /** Lowers the COSTS listed until none can be lower. */
        private void lowerAll() {
            boolean lowered = true;
            // A cheapest PLAN has no DEMAND twice on its way down, so it is no deeper than the list.
            for (int i = 0; lowered && i <= listed; i++) {
                lowered = false;
                // Inputs are mostly listed behind what demands them.
                for (int k = listed - 1; k >= 0; k--) {
                    long cost = cheapestOf(list[k]);
                    if (cost < least[list[k]]) {
                        least[list[k]] = cost;
                        lowered = true;
                    }
                }
            }
        }

        private long cheapestOf(int demand) {
            long cheapest = NO_COST;
            ways.beginAll(demand);
            for (int w = 0; w < Ways.BOUND && ways.advance(); w++) {
                cheapest = Math.min(cheapest, costOfWay());
            }
            return cheapest;
        }

        /** The PRICE of the WAY told and the COSTS of its inputs. */
        private long costOfWay() {
            long cost = ways.price + inputCost(ways.first) + inputCost(ways.second);
            return Math.min(cost, NO_COST);
        }

        private long inputCost(int demand) {
            if (demand == NONE) {
                return 0;
            }
            return least[demand] == UNKNOWN ? NO_COST : least[demand];
        }

        /** The least by one EXPRESSION, for a DEMAND whose COST is known. */
        long cheapestBy(int e, int demand) {
            long cheapest = NO_COST;
            ways.beginAll(demand);
            for (int w = 0; w < Ways.BOUND && ways.advance(); w++) {
                if (ways.e == e) {
                    cheapest = Math.min(cheapest, costOfWay());
                }
            }
            return cheapest;
        }

        /** Has the ways tell THE WAY of a DEMAND that has a COST; whether there is one. */
        boolean tellTheWay(int demand) {
            ways.beginAll(demand);
            for (int w = 0; w < Ways.BOUND && ways.advance(); w++) {
                if (costOfWay() == least[demand]) {
                    return true;
                }
            }
            return false;
        }

        /** How many DEMANDS are DEMANDED by one; they are listed. */
        int demandedBy(int demand) {
            Arrays.fill(marked, (byte) 0);
            listed = 0;
            listIfUnmarked(demand);
            for (int i = 0; i < listed && i < DEMANDS; i++) {
                ways.beginAll(list[i]);
                for (int w = 0; w < Ways.BOUND && ways.advance(); w++) {
                    listIfUnmarked(ways.first);
                    listIfUnmarked(ways.second);
                }
            }
            return listed;
        }

        private void listIfUnmarked(int demand) {
            if (demand != NONE && marked[demand] == 0 && listed < DEMANDS) {
                marked[demand] = 1;
                list[listed] = demand;
                listed++;
            }
        }

        /** Of how many of what is DEMANDED by one, whose COST is known, the COST is at most some. */
        int demandedWithin(int demand, long most) {
            int demanded = demandedBy(demand);
            int count = 0;
            for (int i = 0; i < demanded; i++) {
                if (least[list[i]] <= most) {
                    count++;
                }
            }
            return count;
        }
    }

    /** THE PLAN: its NODES, each ahead of its inputs. */
    private static final class Plan {
        // What is told of a NODE, by the numbers of planAt().
        static final int FACTS = 8;
        private static final int KIND = 0;
        private static final int OWN = 1;
        private static final int NODES_OF_ALL = 6;
        private static final int OF_HALF = 7;

        final int[] facts = new int[NODES * FACTS];
        final long[] nodeCosts = new long[NODES];
        // DEMANDS that wait for their NODES; inputs that are still to be spelled.
        final int[] stack = new int[NODES];
        int nodes = 0;

        boolean isNode(int i) {
            return i >= 0 && i < nodes;
        }

        int fact(int i, int what) {
            return facts[i * FACTS + what];
        }

        /** Makes the PLAN of a DEMAND whose COST is known; false if its NODES are too many. */
        boolean make(Costs costs, int demand) {
            Ways ways = costs.ways;
            int waiting = 1;
            stack[0] = demand;
            for (nodes = 0; nodes < NODES && waiting > 0; nodes++) {
                waiting--;
                int d = stack[waiting];
                if (!costs.tellTheWay(d)) {
                    return false;
                }
                int inputs = inputsOf(ways.kind);
                if (nodes + 1 + waiting + inputs > NODES) {
                    return false;
                }
                note(nodes, ways);
                nodeCosts[nodes] = costs.least[d];
                if (inputs == 2) {
                    stack[waiting] = ways.second;
                    waiting++;
                }
                if (inputs > 0) {
                    stack[waiting] = ways.first;
                    waiting++;
                }
            }
            countNodes();
            return true;
        }

        private void note(int i, Ways ways) {
            int from = i * FACTS;
            facts[from + KIND] = ways.kind;
            facts[from + OWN] = ways.ownOfWay();
            facts[from + 2] = ways.group;
            facts[from + 3] = ways.order;
            facts[from + 4] = ways.place;
            facts[from + 5] = ways.at;
            facts[from + NODES_OF_ALL] = 1;
            facts[from + OF_HALF] = ways.isOfHalf() ? 1 : 0;
        }

        /** From the last on, so that the inputs of each NODE are counted ahead of it. */
        private void countNodes() {
            for (int i = nodes - 1; i >= 0; i--) {
                int count = 1;
                int inputs = inputsOf(fact(i, KIND));
                for (int k = 0; k < inputs && i + count < nodes; k++) {
                    count += fact(i + count, NODES_OF_ALL);
                }
                facts[i * FACTS + NODES_OF_ALL] = count;
            }
        }

        private static int inputsOf(int wayKind) {
            if (wayKind == READ) {
                return 0;
            }
            return wayKind >= HASH && wayKind <= LOOP ? 2 : 1;
        }

        private boolean isSpelled(int i) {
            return fact(i, KIND) != SORT && fact(i, KIND) != SHIP;
        }

        /** The KIND of the EXPRESSION that a NODE is of. */
        private int expressionKind(int i) {
            int wayKind = fact(i, KIND);
            if (wayKind == READ) {
                return SCAN;
            }
            if (wayKind == SIEVE) {
                return KEEP;
            }
            if (inputsOf(wayKind) == 1) {
                return TALLY;
            }
            return fact(i, OF_HALF) == 1 ? HALF : JOIN;
        }

        int letters() {
            int letters = 0;
            for (int i = 0; i < nodes; i++) {
                if (isSpelled(i)) {
                    int inputs = inputsOf(fact(i, KIND));
                    // The digit, then a sign ahead of each input and one at the end.
                    letters += wordOf(expressionKind(i)).length() + 1 + (inputs == 0 ? 0 : inputs + 1);
                }
            }
            return letters;
        }

        /** Spells the PLAN into a ROW that is long enough. */
        void writeTo(Shelf shelf) {
            int at = 0;
            int open = 0;
            for (int i = 0; i < nodes; i++) {
                if (!isSpelled(i)) {
                    continue;
                }
                String word = wordOf(expressionKind(i));
                for (int k = 0; k < word.length(); k++) {
                    shelf.put(at + k, word.charAt(k));
                }
                at += word.length();
                shelf.put(at, '0' + fact(i, OWN));
                at++;
                int inputs = inputsOf(fact(i, KIND));
                if (inputs > 0 && open < NODES) {
                    shelf.put(at, '(');
                    at++;
                    stack[open] = inputs;
                    open++;
                    continue;
                }
                // What ends with this SCAN is closed, up to one that has an input to come.
                boolean ended = true;
                while (ended && open > 0) {
                    stack[open - 1]--;
                    ended = stack[open - 1] == 0;
                    shelf.put(at, ended ? ')' : ',');
                    at++;
                    open -= ended ? 1 : 0;
                }
            }
        }
    }

    /** Reads a TEXT: first all of it, then, if it has no FAULT, what is in it is TOLD. */
    private static final class Reader {
        // An EXPRESSION has six letters at least, and a ROW 160.
        private static final int PARTS = 32;

        final Memo memo;
        Shelf row = null;
        int at = 0;
        // EXPRESSIONS that have been read whole, with the places of their inputs in these arrays.
        int parts = 0;
        final int[] kind = new int[PARTS];
        final int[] own = new int[PARTS];
        final int[] left = new int[PARTS];
        final int[] right = new int[PARTS];
        final int[] columns = new int[PARTS];
        final int[] groups = new int[PARTS];
        // EXPRESSIONS that are still open, with where they begin.
        int open = 0;
        final int[] openKind = new int[PARTS];
        final int[] openOwn = new int[PARTS];
        final int[] openLeft = new int[PARTS];
        final int[] openFrom = new int[PARTS];

        Reader(Memo memo) {
            this.memo = memo;
        }

        /** The FAULT of a TEXT, or NONE. */
        int faultIn(Shelf shelf) {
            row = shelf;
            at = 0;
            parts = 0;
            open = 0;
            for (int i = 0; i < PARTS * 2; i++) {
                if (!beginOne()) {
                    return at;
                }
                boolean readWhole = kindOpen() == SCAN;
                if (!readWhole && !take('(')) {
                    return at;
                }
                if (readWhole) {
                    endOne(NONE, NONE);
                    int fault = endAround();
                    if (fault != NONE) {
                        return fault;
                    }
                    if (open == 0) {
                        return at == shelf.size ? NONE : at;
                    }
                }
            }
            return at;
        }

        private int kindOpen() {
            return open > 0 ? openKind[open - 1] : NONE;
        }

        /** Reads a word, a blank and a digit. */
        private boolean beginOne() {
            int from = at;
            int k = kindBy(letter());
            if (k == NONE || open >= PARTS || parts >= PARTS) {
                return false;
            }
            String word = wordOf(k);
            for (int i = 0; i < word.length(); i++) {
                if (!take(word.charAt(i))) {
                    return false;
                }
            }
            int digit = letter() - '0';
            if (digit < 0 || digit >= digitsOf(k)) {
                return false;
            }
            at++;
            openKind[open] = k;
            openOwn[open] = digit;
            openLeft[open] = NONE;
            openFrom[open] = from;
            open++;
            return true;
        }

        /** The element that is to be read next; NONE, which is no letter, where there is none. */
        private int letter() {
            return row == null ? NONE : row.letterAt(at);
        }

        private boolean take(int wanted) {
            if (letter() != wanted) {
                return false;
            }
            at++;
            return true;
        }

        private static int kindBy(int letter) {
            switch (letter) {
                case 's':
                    return SCAN;
                case 'k':
                    return KEEP;
                case 't':
                    return TALLY;
                case 'j':
                    return JOIN;
                case 'h':
                    return HALF;
                default:
                    return NONE;
            }
        }

        private int digitsOf(int k) {
            if (k == SCAN) {
                return memo.tables;
            }
            return k == KEEP ? TESTS : COLUMNS;
        }

        /** Reads on behind an EXPRESSION, up to where the next has to begin; the FAULT, or NONE. */
        private int endAround() {
            for (int i = 0; i < PARTS && open > 0; i++) {
                int top = open - 1;
                int last = parts - 1;
                boolean ofTwo = openKind[top] == JOIN || openKind[top] == HALF;
                if (ofTwo && openLeft[top] == NONE) {
                    openLeft[top] = last;
                    return take(',') ? NONE : at;
                }
                if (!take(')')) {
                    return at;
                }
                int x = ofTwo ? openLeft[top] : last;
                int y = ofTwo ? last : NONE;
                if (!fitsColumns(openKind[top], openOwn[top], columnsOf(x), columnsOf(y))) {
                    return openFrom[top];
                }
                endOne(x, y);
            }
            return NONE;
        }

        private int columnsOf(int part) {
            return part >= 0 && part < parts ? columns[part] : 0;
        }

        private void endOne(int x, int y) {
            if (open < 1 || parts >= PARTS) {
                return;
            }
            open--;
            int k = openKind[open];
            int o = openOwn[open];
            int first = k == SCAN ? memo.factOfTable(o, 1) : columnsOf(x);
            kind[parts] = k;
            own[parts] = o;
            left[parts] = x;
            right[parts] = y;
            columns[parts] = columnsBy(k, o, first, columnsOf(y));
            parts++;
        }

        /** Tells all of a TEXT without FAULT, or nothing: its GROUP; NONE if there is no room. */
        int tellAll() {
            int expressions = memo.expressions;
            int groupsBefore = memo.groups;
            int g = NONE;
            for (int i = 0; i < parts; i++) {
                g = memo.tell(kind[i], own[i], groupOfPart(left[i]), groupOfPart(right[i]));
                if (g == NONE) {
                    memo.takeBack(expressions, groupsBefore);
                    return NONE;
                }
                groups[i] = g;
            }
            return g;
        }

        private int groupOfPart(int part) {
            return part == NONE ? NONE : groups[part];
        }
    }
}
