/** For each promise of the document what it asks: ordinary inputs, the edges it names, wrong inputs. */
public final class PromiseTests {
    private static final int NONE = PlanMemo.NONE;
    private static int wrong = 0;
    private static int asked = 0;

    private static void due(String call, long got, long want) {
        asked++;
        if (got != want) {
            wrong++;
            System.out.println(call + " answered " + got + ", due is " + want);
        }
    }

    /** What status() tells of what ("11" to "17": REFUSALS) before and after calls that are refused. */
    private static void refused(Counted m, int number, int times) {
        due("status(" + (10 + number) + ")", m.status(10 + number), times);
    }

    private static void fault(Counted m, String letters, int place) {
        due("read of '" + letters + "'", m.read(letters), -6);
        due("fault of '" + letters + "'", m.fault(), place);
    }

    private static void expression(Counted m, int e, int kind, int own, int x, int y, int g) {
        due("expression(" + e + ", 0)", m.expression(e, 0), kind);
        due("expression(" + e + ", 1)", m.expression(e, 1), own);
        due("expression(" + e + ", 2)", m.expression(e, 2), x);
        due("expression(" + e + ", 3)", m.expression(e, 3), y);
        due("expression(" + e + ", 4)", m.expression(e, 4), g);
        due("expression(" + e + ", 5)", m.expression(e, 5), g == NONE ? 1 : 0);
    }

    private static void firing(Counted m, int e, int rule, int f, int room) {
        due("next(0)", m.next(0), e);
        due("next(1)", m.next(1), rule);
        due("next(2)", m.next(2), f);
        due("next(3)", m.next(3), room);
    }

    private static void node(Counted m, int i, int[] facts, long cost) {
        for (int what = 0; what < facts.length; what++) {
            due("planAt(" + i + ", " + what + ")", m.planAt(i, what), facts[what]);
        }
        due("planCost(" + i + ")", m.planCost(i), cost);
    }

    private static void traced(Counted m, int... bodies) {
        for (int i = 0; i < bodies.length; i++) {
            due("trace(" + i + ")", m.trace(i), bodies[i]);
        }
        due("trace behind the last", m.trace(bodies.length), NONE);
        due("status(8)", m.status(8), bodies.length);
    }

    /** A table of 1000 rows and all COLUMNS, no ORDER, all in one; then its SCAN, GROUP 0. */
    private static Counted withScan() {
        Counted m = new Counted();
        m.table(1000, 15, NONE, 4);
        m.scan(0);
        return m;
    }

    private static void newObject() {
        due("NONE", PlanMemo.NONE, -1);
        Counted m = new Counted();
        for (int what = 0; what <= 9; what++) {
            due("status(" + what + ") at first", m.status(what), what == 5 ? 1 : what == 7 ? 4095 : 0);
        }
        for (int number = 1; number <= 7; number++) {
            refused(m, number, 0);
        }
        for (int s = 0; s < 8; s++) {
            due("holds at first", m.holds(s), NONE);
        }
        for (int c = 0; c < 4; c++) {
            due("distinct at first", m.distinct(c, 100), 100);
        }
        due("tableOf at first", m.tableOf(0, 0), -5);
        due("expression at first", m.expression(0, 0), -5);
        due("planAt at first", m.planAt(0, 0), -5);
        due("trace at first", m.trace(0), NONE);
        due("fault at first", m.fault(), NONE);
    }

    private static void rows() {
        Counted m = new Counted();
        due("row", m.row(0, 0, 160), 1);
        due("row of none", m.row(7, 3, 0), 1);
        due("holds bytes", m.holds(0), 100);
        due("holds longs", m.holds(7), 103);
        due("row -1", m.row(-1, 0, 1), -1);
        due("row -1", m.row(8, 9, -1), -1);
        due("row -4", m.row(0, 9, -1), -4);
        due("row -6", m.row(0, 4, 161), -6);
        due("row -6", m.row(0, -1, 3), -6);
        due("row -7", m.row(0, 0, 161), -7);
        due("row -7", m.row(0, 0, Integer.MAX_VALUE), -7);
        refused(m, 1, 2);
        refused(m, 4, 1);
        refused(m, 6, 2);
        refused(m, 7, 2);
        m.set(0, 3, 5);
        due("row anew", m.row(0, 2, 4), 1);
        due("0 at first", m.element(0, 3), 0);

        long big = 0x1234_5678_9ABC_DEF0L;
        long[] kept = {(byte) big, (short) big, (int) big, big};
        for (int sort = 0; sort < 4; sort++) {
            m.row(sort, sort, 2);
            due("set", m.set(sort, 1, big), 1);
            due("lowest bits", m.element(sort, 1), kept[sort]);
            due("the other element", m.element(sort, 0), 0);
        }
        due("set -1", m.set(-1, 0, 0), -1);
        due("set -1", m.set(8, 0, 0), -1);
        due("set -3", m.set(5, 0, 0), -3);
        due("set -5", m.set(0, 2, 0), -5);
        due("set -5", m.set(0, -1, 0), -5);
        due("set -5", m.set(0, Integer.MIN_VALUE, 0), -5);
        due("no element", m.element(0, 2), 0);
        due("no element", m.element(0, -1), 0);
        due("no element", m.element(8, 0), 0);
        due("no element", m.element(5, 0), 0);
        refused(m, 5, 3);
    }

    private static void copies() {
        Counted m = withScan();
        m.row(0, 1, 5);
        m.row(1, 1, 3);
        m.row(2, 2, 3);
        m.show(3, 0);
        for (int i = 0; i < 5; i++) {
            m.set(0, i, 10 + i);
        }
        due("copy", m.copy(0, 1, 1, 0, 3), 1);
        due("copied", m.element(1, 0), 11);
        due("copied", m.element(1, 2), 13);
        due("copy onto itself", m.copy(0, 0, 0, 1, 4), 1);
        due("as it was ahead", m.element(0, 4), 13);
        due("as it was ahead", m.element(0, 1), 10);
        due("copy backward", m.copy(0, 0, 1, 0, 4), 1);
        due("as it was ahead", m.element(0, 3), 13);
        due("copy of none at the ends", m.copy(0, 1, 5, 3, 0), 1);
        due("copy -1", m.copy(8, 3, 0, 0, 1), -1);
        due("copy -1", m.copy(3, -1, 0, 0, 1), -1);
        due("copy -2 EXPRESSION", m.copy(3, 4, 0, 0, -1), -2);
        due("copy -2 EXPRESSION", m.copy(4, 3, 0, 0, -1), -2);
        due("copy -2 SORTS", m.copy(0, 2, 0, 0, -1), -2);
        due("copy -3", m.copy(0, 4, 0, 0, -1), -3);
        due("copy -3", m.copy(4, 0, 0, 0, -1), -3);
        due("copy -4", m.copy(0, 1, 9, 0, -1), -4);
        due("copy -5", m.copy(0, 1, 3, 0, 3), -5);
        due("copy -5", m.copy(0, 1, 0, 1, 3), -5);
        due("copy -5", m.copy(0, 1, -1, 0, 1), -5);
        due("copy -5", m.copy(0, 1, 0, -1, 1), -5);
        due("copy -5", m.copy(0, 1, 6, 0, 0), -5);
        due("copy -5", m.copy(0, 1, Integer.MAX_VALUE, 0, Integer.MAX_VALUE), -5);
        due("set -2", m.set(3, 9, 0), -2);
        due("element of an EXPRESSION", m.element(3, 0), 0);
    }

    private static void shown() {
        Counted m = withScan();
        m.table(10, 15, NONE, 4);
        due("half", m.half(1, 0, m.scan(1)), 2);
        due("join", m.join(2, 0, 1), 3);
        due("keep", m.keep(5, 3), 4);
        due("tally", m.tally(3, 4), 5);
        int[][] says = {
            {0, 0, -2, -2, -2, -2, -2},
            {1, 1, -2, -2, -2, -2, -2},
            {2, -2, -2, -2, -2, 1, 11},
            {3, -2, -2, -2, -2, 2, -2},
            {4, -2, 3, 5, -2, -2, -2},
            {5, -2, 4, -2, 3, -2, -2},
        };
        int others = 0;
        for (int e = 0; e < 6; e++) {
            due("show", m.show(e, e), 1);
            due("holds", m.holds(e), e);
            for (int kind = 0; kind < 7; kind++) {
                due("EXPRESSION " + e + " says as " + kind, m.says(e, kind), says[e][kind]);
                others += says[e][kind] == -2 ? 1 : 0;
            }
        }
        refused(m, 2, others);
        due("show NOTHING", m.show(5, NONE), 0);
        due("holds NOTHING", m.holds(5), NONE);
        due("holds of no SHELF", m.holds(8), NONE);
        due("holds of no SHELF", m.holds(-1), NONE);
        due("show -1", m.show(8, 0), -1);
        due("show -1", m.show(0, 6), -1);
        due("show -1", m.show(0, -2), -1);
        due("still held", m.holds(0), 0);
        due("says -1", m.says(8, 0), -1);
        due("says -1", m.says(6, 7), -1);
        due("says -1", m.says(6, -1), -1);
        due("says -3", m.says(6, 0), -3);
        m.row(6, 0, 1);
        due("says -2", m.says(6, 0), -2);
        due("show over a ROW", m.show(6, 1), 1);
        due("holds", m.holds(6), 1);

        // KEEP 0 of KEEP 1 becomes ALIKE to KEEP 0 of the SCAN, and is GONE.
        Counted g = withScan();
        g.keep(1, 0);
        g.keep(0, 0);
        g.keep(0, 1);
        g.show(0, 3);
        g.same(0, 1);
        due("GONE, as EXPRESSION", g.says(0, 0), 99);
        due("GONE, as SINGLE", g.says(0, 2), 99);
        due("GONE, as KEEP", g.says(0, 3), 0);
        due("GONE can be shown", g.show(1, 3), 1);
        due("GONE is held", g.holds(1), 3);
    }

    private static void tables() {
        Counted m = new Counted();
        due("table", m.table(1, 1, 0, 0), 0);
        due("table", m.table(1_000_000, 15, NONE, 4), 1);
        int[][] facts = {{1, 1, 0, 0}, {1_000_000, 15, NONE, 4}};
        for (int t = 0; t < 2; t++) {
            for (int what = 0; what < 4; what++) {
                due("tableOf", m.tableOf(t, what), facts[t][what]);
            }
        }
        due("tableOf -5", m.tableOf(2, 0), -5);
        due("tableOf -5", m.tableOf(-1, 0), -5);
        due("tableOf -5", m.tableOf(0, 4), -5);
        due("tableOf -5", m.tableOf(0, -1), -5);
        int[][] wrongOnes = {{0, 1, 0, 0}, {1_000_001, 1, 0, 0}, {-5, 1, 0, 0}, {1, 0, NONE, 4}, {1, 16, NONE, 4},
            {1, -1, NONE, 4}, {1, 2, 0, 1}, {1, 2, 1, 0}, {1, 2, -2, 1}, {1, 2, 4, 1}, {1, 2, 1, NONE}, {1, 2, 1, 5},
            {1, 15, 32, 0}, {1, 15, 0, 32}};
        for (int[] w : wrongOnes) {
            due("table -6", m.table(w[0], w[1], w[2], w[3]), -6);
        }
        refused(m, 6, wrongOnes.length);
        for (int t = 2; t < 8; t++) {
            due("table", m.table(5, 2, 1, 1), t);
        }
        due("table -6 ahead of -7", m.table(0, 2, 1, 1), -6);
        due("table -7", m.table(5, 2, 1, 1), -7);
        due("status(0)", m.status(0), 8);

        due("distinct", m.distinct(0, 1), 100);
        due("distinct", m.distinct(0, 1_000_000), 1);
        due("distinct", m.distinct(3, 7), 100);
        due("distinct -1", m.distinct(4, 0), -1);
        due("distinct -1", m.distinct(-1, 5), -1);
        due("distinct -6", m.distinct(0, 0), -6);
        due("distinct -6", m.distinct(0, 1_000_001), -6);
        due("as it was", m.distinct(0, 4), 1_000_000);
    }

    private static void toldOnes() {
        Counted m = new Counted();
        m.table(1000, 3, NONE, 4);
        m.table(50, 6, NONE, 4);
        due("scan", m.scan(1), 0);
        due("scan", m.scan(0), 1);
        due("scan again", m.scan(1), 0);
        due("scan -1", m.scan(2), -1);
        due("scan -1", m.scan(-1), -1);
        due("keep", m.keep(3, 1), 2);
        due("keep again", m.keep(3, 1), 2);
        due("keep of another TEST", m.keep(2, 1), 3);
        due("keep -1", m.keep(9, 9), -1);
        due("keep -1", m.keep(0, -1), -1);
        due("keep -6 p", m.keep(8, 1), -6);
        due("keep -6 p", m.keep(-1, 1), -6);
        due("keep -6 COLUMN", m.keep(4, 1), -6);
        due("keep -6 COLUMN", m.keep(1, 0), -6);
        due("tally", m.tally(1, 2), 4);
        due("tally again", m.tally(1, 2), 4);
        due("tally -1", m.tally(4, 2), -1);
        due("tally -1", m.tally(-1, 2), -1);
        due("tally -1", m.tally(0, 5), -1);
        due("tally -6", m.tally(2, 2), -6);
        due("tally has c alone", m.tally(0, 4), -6);
        due("join", m.join(1, 1, 0), 5);
        due("join again", m.join(1, 1, 0), 5);
        due("join the other way about", m.join(1, 0, 1), 6);
        due("half is not alike", m.half(1, 1, 0), 7);
        due("half again", m.half(1, 1, 0), 7);
        due("join -1", m.join(4, 1, 0), -1);
        due("join -1", m.join(1, 8, 0), -1);
        due("join -1", m.join(1, 0, -1), -1);
        due("join -6: not in y", m.join(0, 1, 0), -6);
        due("join -6: not in x", m.join(2, 1, 0), -6);
        due("half -1", m.half(-1, 1, 0), -1);
        due("half -1", m.half(1, 0, 8), -1);
        due("half -6", m.half(0, 1, 0), -6);
        due("half -6", m.half(2, 1, 0), -6);
        int[] columns = {6, 3, 3, 3, 2, 7, 7, 3};
        for (int g = 0; g < columns.length; g++) {
            due("COLUMNS of " + g, m.group(g, 2), columns[g]);
        }
        expression(m, 0, 1, 1, NONE, NONE, 0);
        expression(m, 2, 3, 3, 1, NONE, 2);
        expression(m, 4, 4, 1, 2, NONE, 4);
        expression(m, 5, 5, 1, 1, 0, 5);
        expression(m, 7, 6, 1, 1, 0, 7);
        due("expression -5", m.expression(8, 0), -5);
        due("expression -5", m.expression(-1, 0), -5);
        due("expression -5", m.expression(0, 6), -5);
        due("expression -5", m.expression(0, -1), -5);
        due("status(1)", m.status(1), 8);
        due("status(2)", m.status(2), 8);
        due("status(9)", m.status(9), 8);
    }

    private static void groupsTold() {
        Counted m = new Counted();
        m.table(1000, 15, NONE, 4);
        m.table(30, 3, NONE, 4);
        m.distinct(0, 7);
        m.distinct(1, 1);
        m.scan(0);
        m.scan(1);
        int[][] told = {
            {m.keep(0, 1), 3}, {m.keep(1, 1), 15}, {m.keep(0, 2), 1}, {m.join(0, 0, 1), 4285}, {m.join(1, 0, 1), 30000},
            {m.join(1, 6, 0), 1_000_000}, {m.half(0, 1, 0), 30}, {m.half(2, 0, 0), 1000}, {m.tally(0, 0), 7},
            {m.tally(2, 3), -6},
        };
        due("tally that may not be", told[9][0], -6);
        for (int i = 0; i < 9; i++) {
            due("ROWS of " + told[i][0], m.group(told[i][0], 1), told[i][1]);
        }
        due("TALLY of few", m.group(m.tally(1, 4), 1), 1);
        m.distinct(0, 1_000_000);
        due("JOIN has one ROW at least", m.group(5, 1), 1);
        due("HALF the less of the two", m.group(8, 1), 1);
        due("TALLY has no more than x", m.group(10, 1), 1000);
        due("users", m.group(0, 4), 6);
        due("no users", m.group(10, 4), 0);
        due("one that has it twice counts once", m.group(9, 0), 1);
        due("least", m.group(9, 3), 9);
        due("group -5", m.group(12, 0), -5);
        due("group -5", m.group(-1, 0), -5);
        due("group -5", m.group(0, 5), -5);
        due("group -5", m.group(0, -1), -5);
        refused(m, 5, 4);
    }

    private static void merging() {
        Counted m = withScan();
        m.table(20, 15, NONE, 4);
        m.scan(1);
        m.keep(0, 0);
        m.keep(0, 1);
        m.join(0, 2, 3);
        m.join(0, 3, 3);
        m.join(0, 2, 2);
        m.tally(2, 4);
        due("groupOf", m.groupOf(3), 3);
        due("groupOf -1", m.groupOf(8), -1);
        due("groupOf -1", m.groupOf(-1), -1);
        due("same -1", m.same(0, 8), -1);
        due("same -1", m.same(-1, 0), -1);
        due("same -6", m.same(0, 7), -6);
        due("same of one", m.same(4, 4), 4);
        due("nothing GONE", m.status(3), 0);
        due("same", m.same(1, 0), 0);
        due("groupOf of one merged", m.groupOf(1), 0);
        due("KEEPS are alike then", m.groupOf(3), 2);
        due("JOINS too", m.groupOf(5), 4);
        due("JOINS too", m.groupOf(6), 4);
        expression(m, 1, 1, 1, NONE, NONE, 0);
        expression(m, 3, 3, 0, NONE, NONE, NONE);
        expression(m, 4, 5, 0, 2, 2, 4);
        expression(m, 5, 5, 0, NONE, NONE, NONE);
        expression(m, 6, 5, 0, NONE, NONE, NONE);
        expression(m, 7, 4, 2, 4, NONE, 7);
        due("status(1)", m.status(1), 8);
        due("status(2)", m.status(2), 4);
        due("status(3)", m.status(3), 3);
        due("status(9)", m.status(9), 8);
        due("how many in 0", m.group(1, 0), 2);
        due("ROWS by the least", m.group(1, 1), 1000);
        due("least", m.group(1, 3), 0);
        due("users", m.group(3, 4), 1);
        due("a number that went means the other", m.keep(0, 1), 2);
        due("the next GROUP", m.keep(1, 5), 8);

        // A GROUP in itself: the SCAN and what it is kept by.
        Counted c = withScan();
        c.keep(0, 0);
        c.keep(0, 1);
        due("same", c.same(0, 1), 0);
        due("alike in the same GROUP", c.groupOf(2), 0);
        due("GONE", c.expression(2, 5), 1);
        due("how many", c.group(0, 0), 2);
        due("users", c.group(0, 4), 1);
        due("cost", c.cost(0, NONE, NONE), 1000);
        due("trees of one level", c.trees(0, 1), 1);
        due("trees of five levels", c.trees(0, 5), 5);
    }

    private static Counted twoTables() {
        Counted m = new Counted();
        m.table(1000, 3, NONE, 4);
        m.table(50, 6, NONE, 4);
        return m;
    }

    private static void texts() {
        Counted m = twoTables();
        due("fault at first", m.fault(), NONE);
        due("read", m.read("half 1(keep 1(scan 0),tally 1(join 1(scan 0,scan 1)))"), 5);
        due("no FAULT", m.fault(), NONE);
        expression(m, 0, 1, 0, NONE, NONE, 0);
        expression(m, 1, 3, 1, 0, NONE, 1);
        expression(m, 2, 1, 1, NONE, NONE, 2);
        expression(m, 3, 5, 1, 0, 2, 3);
        expression(m, 4, 4, 1, 3, NONE, 4);
        expression(m, 5, 6, 1, 1, 4, 5);
        due("read again", m.read("half 1(keep 1(scan 0),tally 1(join 1(scan 0,scan 1)))"), 5);
        due("nothing new", m.status(1), 6);
        fault(twoTables(), "", 0);
        fault(twoTables(), "x", 0);
        fault(twoTables(), "scan", 4);
        fault(twoTables(), "scan ", 5);
        fault(twoTables(), "scan 2", 5);
        fault(twoTables(), "scan x", 5);
        fault(twoTables(), "scan  0", 5);
        fault(twoTables(), "scan 00", 6);
        fault(twoTables(), "scan 0 ", 6);
        fault(twoTables(), "scin 0", 2);
        fault(twoTables(), "Scan 0", 0);
        fault(twoTables(), " scan 0", 0);
        fault(twoTables(), "keep 8(scan 0)", 5);
        fault(twoTables(), "keep 1", 6);
        fault(twoTables(), "keep 1 (scan 0)", 6);
        fault(twoTables(), "keep 1()", 7);
        fault(twoTables(), "keep 1(scan 0", 13);
        fault(twoTables(), "keep 1(scan 0,", 13);
        fault(twoTables(), "keep 1(scan 0))", 14);
        fault(twoTables(), "tally 4(scan 0)", 6);
        fault(twoTables(), "join 1(scan 0)", 13);
        fault(twoTables(), "join 1(scan 0,scan 1", 20);
        fault(twoTables(), "join 1(scan 0,scan 1,", 20);
        fault(twoTables(), "join 1(scan 0,", 14);
        fault(twoTables(), "keep 4(scan 0)", 0);
        fault(twoTables(), "keep 4(scan 0)x", 0);
        fault(twoTables(), "keep 4(scan 0x", 13);
        fault(twoTables(), "join 1(scan 0,keep 0(scan 1))", 14);
        fault(twoTables(), "join 0(scan 0,scan 1)", 0);
        fault(twoTables(), "tally 0(tally 1(scan 0))", 0);
        fault(twoTables(), "half 1(scan 1,tally 3(scan 1))", 14);
        fault(m, "half 1(scan 1,tally 3(scan 1))", 14);
        due("nothing new", m.status(1), 6);
        due("refused reads", m.status(16), 1);
        m.show(6, 0);
        due("read -1", m.read(8), -1);
        due("read -1", m.read(-1), -1);
        due("read -2", m.read(6), -2);
        due("read -3", m.read(5), -3);
        due("the FAULT is as it was", m.fault(), 14);
        for (int sort = 1; sort < 4; sort++) {
            m.text(4, sort, "scan 1");
            m.set(4, 5, '1' + (1L << 40));
            due("read of SORT " + sort, m.read(4), 2);
        }
        due("the FAULT is gone", m.fault(), NONE);
        m.text(4, 2, "scan 1");
        m.set(4, 5, '1' + 256);
        due("an int is not cut to a letter", m.read(4), -6);
        due("its FAULT", m.fault(), 5);

        StringBuilder deep = new StringBuilder();
        for (int i = 0; i < 19; i++) {
            deep.append("keep ").append(i % 2).append('(');
        }
        String open = deep.toString() + "scan 0";
        due("deepest", twoTables().read(open + ")".repeat(19)), 19);
        fault(twoTables(), open + ")".repeat(18), open.length() + 18);
        fault(twoTables(), "keep 0(".repeat(22), 154);
    }

    /** EXPRESSIONS up to a number, all KEEPS in a chain from GROUP 0. */
    private static Counted chain(int expressions) {
        Counted m = withScan();
        for (int e = 1; e < expressions; e++) {
            m.keep(e % 2, e - 1);
        }
        return m;
    }

    private static void room() {
        Counted m = chain(62);
        m.table(9, 15, NONE, 4);
        due("read -7", m.read("join 0(scan 1,keep 7(scan 1))"), -7);
        due("nothing of it", m.status(1), 62);
        due("nothing of it", m.status(9), 62);
        due("no FAULT", m.fault(), NONE);
        due("the same twice is new once", m.read("join 0(scan 1,scan 1)"), 63);
        due("scan that is there", m.scan(1), 62);
        due("keep that is there", m.keep(1, 0), 1);
        due("keep -7", m.keep(7, 0), -7);
        due("keep -6 ahead of -7", m.keep(8, 0), -6);
        due("tally -7", m.tally(0, 0), -7);
        due("join -7", m.join(0, 0, 0), -7);
        due("half -7", m.half(0, 0, 0), -7);
        m.table(9, 15, NONE, 4);
        due("scan -7", m.scan(2), -7);
        due("read of what is there", m.read("keep 0(keep 1(scan 0))"), 2);
        due("read -7", m.read("keep 7(scan 0)"), -7);
        refused(m, 7, 7);
        due("deal without room", m.deal(20), 0);
        due("full", m.status(1), 64);
    }

    private static void turning() {
        Counted m = withScan();
        m.join(0, 0, 0);
        firing(m, 1, 0, NONE, 1);
        due("explore", m.explore(200), 1);
        due("alike to itself", m.status(1), 2);
        due("fired TURN", m.fired(0), 1);
        firing(m, NONE, NONE, NONE, NONE);
        due("never again", m.explore(1), 0);

        Counted t = withScan();
        t.table(9, 15, NONE, 4);
        t.scan(1);
        t.join(2, 0, 1);
        t.join(2, 1, 0);
        t.half(2, 0, 1);
        due("explore", t.explore(1), 1);
        due("the other's GROUP merges", t.groupOf(3), 2);
        due("both are in it", t.group(2, 0), 2);
        due("HALF does not turn", t.explore(9), 1);
        due("explore -6", t.explore(0), -6);
        due("explore -6", t.explore(201), -6);
        due("next -5", t.next(4), -5);
        due("next -5", t.next(-1), -5);
        due("fired -5", t.fired(7), -5);
        due("fired -5", t.fired(-1), -5);
        due("status(4)", t.status(4), 2);
    }

    private static void leaning() {
        Counted m = new Counted();
        m.table(10, 3, NONE, 4);
        m.table(20, 7, NONE, 4);
        m.table(30, 4, NONE, 4);
        m.scan(0);
        m.scan(1);
        m.scan(2);
        m.join(0, 0, 1);
        m.join(2, 3, 2);
        firing(m, 3, 0, NONE, 1);
        m.explore(1);
        expression(m, 5, 5, 0, 1, 0, 3);
        firing(m, 4, 0, NONE, 1);
        m.explore(1);
        expression(m, 6, 5, 2, 2, 3, 4);
        // With f 3: COLUMN 2 is one of v, GROUP 1.
        firing(m, 4, 1, 3, 1);
        m.explore(1);
        expression(m, 7, 5, 2, 1, 2, 5);
        expression(m, 8, 5, 0, 0, 5, 4);
        due("fired LEAN", m.fired(1), 1);
        // With f 5 it is not: v is GROUP 0.
        firing(m, 5, 0, NONE, 1);
        due("COLUMNS of what was TOLD in between", m.group(5, 2), 7);

        // Neither e nor f is a HALF.
        Counted h = withScan();
        h.half(0, 0, 0);
        h.join(0, 1, 0);
        h.half(0, 2, 0);
        due("explore", h.explore(1), 1);
        firing(h, 4, 0, NONE, 1);
        due("explore", h.explore(9), 1);
        firing(h, NONE, NONE, NONE, NONE);
    }

    private static void sinking() {
        Counted m = new Counted();
        m.table(10, 3, NONE, 4);
        m.table(20, 6, NONE, 4);
        m.scan(0);
        m.scan(1);
        m.half(1, 0, 1);
        m.keep(1, 2);
        m.keep(4, 1);
        m.join(1, 0, 1);
        m.keep(4, 5);
        firing(m, 3, 2, 2, 1);
        m.explore(1);
        expression(m, 7, 3, 1, 0, NONE, 7);
        expression(m, 8, 6, 1, 7, 1, 3);
        // KEEP 4 of the JOIN: COLUMN 2 is not one of u.
        firing(m, 5, 0, NONE, 1);
        m.explore(1);
        expression(m, 9, 5, 1, 1, 0, 5);
        firing(m, 6, 2, 9, 1);
        m.explore(1);
        expression(m, 10, 5, 1, 4, 0, 6);
        due("what was TOLD in between was there", m.status(1), 11);
        due("fired SINK", m.fired(2), 2);
    }

    private static void passing() {
        Counted m = withScan();
        m.keep(2, 0);
        m.keep(5, 1);
        firing(m, 2, 3, 1, 1);
        m.explore(1);
        expression(m, 3, 3, 5, 0, NONE, 3);
        expression(m, 4, 3, 2, 3, NONE, 2);
        due("fired PASS", m.fired(3), 1);
        firing(m, 4, 3, 3, 1);
        due("explore", m.explore(9), 1);
        due("what comes of it was there", m.status(1), 5);

        Counted o = withScan();
        o.keep(2, 0);
        o.keep(2, 1);
        o.keep(2, 2);
        firing(o, 2, 4, 1, 1);
        due("explore", o.explore(1), 1);
        due("ONCE merges", o.groupOf(2), 1);
        due("and what has both as x is alike", o.expression(3, 5), 1);
        due("fired ONCE", o.fired(4), 1);
        // EXPRESSION 2 is in its own GROUP, its x, now, and is its own f.
        firing(o, 2, 4, 2, 1);
        due("explore", o.explore(9), 1);
        due("fired ONCE", o.fired(4), 2);

        Counted t = withScan();
        t.tally(3, 0);
        t.tally(3, 1);
        firing(t, 2, 4, 1, 1);
        t.explore(1);
        due("but for COLUMNS that never are alike", t.groupOf(2), 1);
    }

    private static void underAndSwap() {
        Counted m = withScan();
        m.keep(6, 0);
        m.keep(2, 0);
        m.tally(3, 1);
        m.tally(3, 2);
        firing(m, 3, 5, 1, 1);
        m.explore(1);
        expression(m, 5, 4, 3, 0, NONE, 5);
        expression(m, 6, 3, 6, 5, NONE, 3);
        due("fired UNDER", m.fired(5), 1);
        firing(m, NONE, NONE, NONE, NONE);

        Counted s = withScan();
        s.table(9, 15, NONE, 4);
        s.table(8, 15, NONE, 4);
        s.scan(1);
        s.scan(2);
        s.half(0, 0, 1);
        s.half(3, 3, 2);
        firing(s, 4, 6, 3, 1);
        s.explore(1);
        expression(s, 5, 6, 3, 0, 2, 5);
        expression(s, 6, 6, 0, 5, 1, 4);
        due("fired SWAP", s.fired(6), 1);
        firing(s, 6, 6, 5, 1);
        due("explore", s.explore(200), 1);
        due("all was there", s.status(1), 7);
    }

    private static void withoutRoom() {
        Counted m = new Counted();
        m.table(10, 15, NONE, 4);
        m.scan(0);
        m.keep(0, 0);
        m.keep(2, 1);
        for (int e = 3; e < 63; e++) {
            m.tally(0, e == 3 ? 0 : e - 1);
        }
        firing(m, 2, 3, 1, 0);
        due("explore ends ahead of it", m.explore(5), 0);
        due("nothing FIRED", m.status(4), 0);
        m.keep(2, 0);
        due("full", m.status(1), 64);
        firing(m, 2, 3, 1, 0);
        due("explore ends ahead of it", m.explore(5), 0);

        Counted h = new Counted();
        h.table(10, 15, NONE, 4);
        h.scan(0);
        h.keep(0, 0);
        h.keep(2, 1);
        h.keep(2, 0);
        for (int e = 4; e < 63; e++) {
            h.tally(0, e == 4 ? 0 : e - 1);
        }
        firing(h, 2, 3, 1, 1);
        due("one that is there needs no room", h.explore(1), 1);
        due("full", h.status(1), 64);
        // The chain of TALLIES merges, which needs no room: with the first of it, then with itself.
        due("explore", h.explore(200), 3);
        due("fired ONCE", h.fired(4), 2);
        due("all others of the chain are GONE", h.status(3), 57);
    }

    private static void priced() {
        Counted m = new Counted();
        long[] prices = {7, 7, 7, 15, 18, 17, 71, 12, 19, 12, 28, 21};
        int[][] bodies = {{12, 10, 11}, {12, 10, 11}, {12, 10, 11}, {12, 30, 10, 31, 11}, {12, 30, 10, 40, 31, 11},
            {12, 50, 30, 10, 31, 11}, {12, 30, 10, 60, 31, 11}, {12, 10, 70, 11}, {12, 80, 10, 70, 11},
            {12, 10, 70, 11}, {12, 10, 100, 11}, {110, 12, 10, 11}};
        prices[3] = 7 + 8 + 5;
        prices[4] = 7 + 8 + 5 + 8;
        prices[5] = 7 + 8 + 5 + 5;
        prices[6] = 7 + 8 + 5 + 56;
        for (int kind = 0; kind < 12; kind++) {
            due("price(" + kind + ")", m.price(kind, 7, 8, 5), prices[kind]);
            traced(m, bodies[kind]);
        }
        due("binary digits of none", m.price(10, 0, 0, 0), 0);
        due("binary digits of 1", m.price(10, 1, 0, 0), 2);
        due("binary digits of 8", m.price(10, 8, 0, 0), 40);
        due("binary digits of a million", m.price(10, 1_000_000, 0, 0), 21_000_000);
        due("the dearest LOOP", m.price(6, 1_000_000, 1_000_000, 1_000_000), 1_000_003_000_000L);
        due("price -1", m.price(12, -1, 0, 0), -1);
        due("price -1", m.price(-1, 0, 0, 0), -1);
        due("price -6", m.price(0, -1, 0, 0), -6);
        due("price -6", m.price(0, 0, 1_000_001, 0), -6);
        due("price -6", m.price(0, 0, 0, -1), -6);
        traced(m, bodies[6]);
        due("trace", m.trace(-1), NONE);
        due("trace", m.trace(20), NONE);
        refused(m, 1, 2);
        refused(m, 6, 3);
        m.table(1, 15, NONE, 4);
        m.cost(m.scan(0), 0, 0);
        traced(m, bodies[6]);
    }

    private static void allowing() {
        Counted m = new Counted();
        int[] ownKinds = {1, 2, 4, 5, 6, 8, 9, 10, 11};
        int bits = 4095;
        for (int kind : ownKinds) {
            due("allow", m.allow(kind, false), 1);
            bits &= ~(1 << kind);
            due("status(7)", m.status(7), bits);
            due("allow", m.allow(kind, false), 0);
        }
        due("those that always are", bits, 1 | 1 << 3 | 1 << 7);
        for (int kind : ownKinds) {
            due("allow", m.allow(kind, true), 0);
            due("allow", m.allow(kind, true), 1);
        }
        due("status(7)", m.status(7), 4095);
        for (int kind : new int[] {0, 3, 7, 12, -1, 32, 33, Integer.MIN_VALUE}) {
            due("allow -1", m.allow(kind, false), -1);
            due("worth -11", m.worth(0, 0, 0, kind), -11);
        }
        due("status(7)", m.status(7), 4095);
        refused(m, 1, 16);
    }

    /** GROUP 2 is SCAN 0 (1000 ROWS, ORDER 0, all in one) joined by COLUMN 1 with SCAN 1 (50, parted by 1). */
    private static Counted joined() {
        Counted m = new Counted();
        m.table(1000, 3, 0, 4);
        m.table(50, 6, NONE, 1);
        m.scan(0);
        m.scan(1);
        m.join(1, 0, 1);
        return m;
    }

    private static void costsOfScans() {
        Counted m = joined();
        due("any", m.cost(0, NONE, NONE), 1000);
        due("its ORDER", m.cost(0, 0, NONE), 1000);
        due("its PLACE", m.cost(0, NONE, 4), 1000);
        due("both", m.cost(0, 0, 4), 1000);
        // SORT: 1000 reads, 1000 * 10 works.
        due("sorted", m.cost(0, 1, 4), 12000);
        due("shipped", m.cost(0, NONE, 1), 4000);
        due("shipped, then sorted", m.cost(0, 0, 1), 15000);
        due("an ORDER that is no COLUMN of it", m.cost(0, 2, NONE), NONE);
        due("a PLACE that is no COLUMN of it", m.cost(0, NONE, 2), NONE);
        due("parted", m.cost(1, NONE, 1), 50);
        due("all in one", m.cost(1, NONE, 4), 200);
        due("cost -11", m.cost(3, 9, 9), -11);
        due("cost -11", m.cost(-1, 0, 0), -11);
        due("cost -16", m.cost(0, 4, 0), -16);
        due("cost -16", m.cost(0, -2, 0), -16);
        due("cost -16", m.cost(0, 0, 5), -16);
        due("cost -16", m.cost(0, 0, -2), -16);
        refused(m, 1, 2);
        refused(m, 6, 4);
        due("where", m.where(0, NONE), 4);
        due("where", m.where(1, NONE), 1);
        due("where, at none", m.where(0, 3), NONE);
        due("where, sorted", m.where(0, 1), 4);
        due("where -11", m.where(3, 0), -11);
        due("where -16", m.where(0, 4), -16);
        m.allow(11, false);
        due("no SHIP", m.cost(0, NONE, 1), NONE);
        due("where without SHIP", m.where(0, NONE), 4);
        m.allow(1, false);
        due("no READ", m.cost(0, NONE, NONE), NONE);
        due("where, at none", m.where(0, NONE), NONE);
    }

    private static void costsOfJoins() {
        Counted m = joined();
        due("ROWS", m.group(2, 1), 500);
        // HASH at 4: 1050 reads, 500 + 50 works; inputs 1000, 200.
        due("cost", m.cost(2, NONE, NONE), 2800);
        due("costBy", m.costBy(2, NONE, NONE), 2800);
        // At 1: inputs 4000, 50.
        due("costBy at 1", m.costBy(2, NONE, 1), 5650);
        due("cost at 1", m.cost(2, NONE, 1), 2800 + 1500);
        due("cost at 0", m.cost(2, NONE, 0), 2800 + 1500);
        due("costBy at 0", m.costBy(2, NONE, 0), NONE);
        due("where", m.where(2, NONE), 4);
        // SORT of 500: 500 + 500 * 9.
        due("sorted by 2", m.cost(2, 2, NONE), 7800);
        // LOOP keeps the ORDER: 1050 reads, 500 + 50000 works; inputs 1000, 200.
        due("LOOP", m.costBy(2, 0, 4), 52750);
        // MERGE: 1550 reads, 500 works; inputs 12000, 200 + (50 + 50 * 6).
        due("MERGE", m.costBy(2, 1, 4), 1550 + 500 + 12000 + 550);
        due("costBy -11", m.costBy(3, 0, 0), -11);
        due("costBy -11", m.costBy(-1, 9, 0), -11);
        due("costBy -16", m.costBy(2, 4, 0), -16);
        due("costBy -16", m.costBy(2, 0, 5), -16);

        due("worth of HASH", m.worth(2, NONE, NONE, 4), 14600 - 2800);
        due("worth of LOOP", m.worth(2, NONE, NONE, 6), 0);
        due("worth of READ", m.worth(2, NONE, NONE, 1), NONE);
        due("worth of what has no COST", m.worth(2, 3, NONE, 6), NONE);
        due("worth -11", m.worth(3, 9, 9, 9), -11);
        due("worth -11", m.worth(2, 0, 0, 3), -11);
        due("worth -16", m.worth(2, 4, 0, 4), -16);
        due("worth -16", m.worth(2, 0, 5, 4), -16);
        due("all are ALLOWED still", m.status(7), 4095);
        m.allow(4, false);
        due("worth of one that isn't ALLOWED", m.worth(2, NONE, NONE, 4), 0);
        due("without HASH", m.cost(2, NONE, NONE), 14600);

        // (2, any, any): by PAIRS at 1 and at 4, for each: x, y any ORDER and ORDER 1. Then READ, SORT, SHIP of these.
        m.allow(4, true);
        due("demands", m.demands(0, NONE, NONE), 1);
        due("demands with SHIP", m.demands(0, NONE, 0), 2);
        due("demands with SORT", m.demands(0, 1, NONE), 2);
        due("demands with SORT and SHIP", m.demands(0, 1, 1), 3);
        due("demands", m.demands(2, NONE, NONE), 1 + 8 + 2);
        due("demands -1", m.demands(3, 9, 9), -1);
        due("demands -6", m.demands(0, 9, 0), -6);
        due("demands -6", m.demands(0, 0, 9), -6);
        // COSTS: 2800; of 0: 1000 at 4, any, 4000 at 1, 12000 and 15000 sorted; of 1: all less than 2800.
        due("within", m.within(2, NONE, NONE), 1 + 2 + 5);
        due("within itself", m.within(0, NONE, NONE), 1);
        due("within no COST", m.within(0, 2, NONE), 0);
        due("within -1", m.within(3, 9, 9), -1);
        due("within -6", m.within(0, 9, 0), -6);
        m.allow(11, false);
        due("no WAY is one of a KIND that isn't ALLOWED", m.demands(0, NONE, 0), 1);
        m.allow(10, false);
        due("no WAY is one of a KIND that isn't ALLOWED", m.demands(0, 1, 1), 1);
    }

    private static void costsOfOthers() {
        Counted m = withScan();
        m.keep(0, 0);
        m.tally(2, 1);
        m.distinct(2, 40);
        due("SIEVE", m.cost(1, NONE, NONE), 2000);
        due("SIEVE of a sorted one", m.costBy(1, 1, NONE), 1000 + 12000);
        due("sorted behind it", m.cost(1, 1, NONE), 2000 + 100 + 700);
        due("ROWS", m.group(2, 1), 40);
        // HEAP: 200 reads, 40 works.
        due("HEAP at 4", m.cost(2, NONE, NONE), 2240);
        due("HEAP at 2", m.costBy(2, NONE, 2), 2540 - 0 - 300 + 300);
        due("shipped behind it", m.cost(2, NONE, 2), 2240 + 120);
        // STREAM: 100 reads, 40 works; its input sorted.
        due("STREAM", m.costBy(2, 2, NONE), 140 + 2800);
        // SORT of 40: 40 + 40 * 6.
        due("sorted behind it", m.cost(2, 2, NONE), 2240 + 280);
        due("worth of SORT", m.worth(2, 2, NONE, 10), NONE);
        due("worth of HEAP", m.worth(2, NONE, NONE, 8), 2940 - 2240);
        due("another PLACE", m.cost(2, NONE, 0), NONE);

        // Above 1,000,000,000,000 there is none: without any other PAIR two LOOPS of a million times a million.
        Counted d = new Counted();
        d.table(1_000_000, 15, NONE, 4);
        d.scan(0);
        d.distinct(0, 1_000_000);
        d.join(0, 0, 0);
        d.allow(4, false);
        d.allow(5, false);
        due("too dear", d.cost(1, NONE, NONE), NONE);
        due("too dear", d.costBy(1, NONE, NONE), NONE);
        due("no PLAN", d.plan(1, NONE, NONE), -5);
        due("within no COST", d.within(1, NONE, NONE), 0);
        due("demands all the same", d.demands(1, NONE, NONE), 4);
        due("at none", d.where(1, NONE), NONE);
        due("of what is dear", d.worth(1, NONE, NONE, 6), NONE);
        d.table(999_993, 15, NONE, 4);
        d.scan(1);
        d.join(0, 0, 2);
        // 1999993 reads, 999993 ROWS, 999993000000 works; inputs 1999993.
        due("below it", d.cost(3, NONE, NONE), 1_999_993L + 999_993L + 999_993_000_000L + 1_999_993L);
        // HEAP: 1999986 reads, and as many works as COLUMN 1 is DISTINCT.
        d.tally(1, 3);
        d.distinct(1, 35);
        due("just the most", d.cost(4, NONE, NONE), 1_000_000_000_000L);
        due("just the most", d.costBy(4, NONE, NONE), 1_000_000_000_000L);
        due("just the most", d.plan(4, NONE, NONE), 4);
        due("just the most", d.within(4, NONE, 4) > 0 ? 1 : 0, 1);
        d.distinct(1, 36);
        due("one more", d.cost(4, NONE, NONE), NONE);
        due("one more", d.costBy(4, NONE, NONE), NONE);
        due("one more", d.plan(4, NONE, NONE), -5);
        due("one more", d.within(4, NONE, 4), 0);
        due("its input", d.cost(3, NONE, NONE) > 0 ? 1 : 0, 1);
    }

    private static void plans() {
        Counted m = joined();
        m.half(1, 2, 1);
        m.tally(1, 3);
        due("plan -1", m.plan(5, 9, 9), -1);
        due("plan -6", m.plan(4, 4, NONE), -6);
        due("plan -6", m.plan(4, NONE, 5), -6);
        due("plan -5", m.plan(4, 0, NONE), -5);
        due("planAt -5", m.planAt(0, 0), -5);
        due("planCost -5", m.planCost(0), -5);
        m.row(0, 0, 160);
        due("spell -5", m.spell(0), -5);
        due("plan", m.plan(2, 2, 4), 5);
        node(m, 0, new int[] {10, 2, 2, 2, 4, NONE, 5, 0}, 7800);
        node(m, 1, new int[] {4, 1, 2, NONE, 4, 4, 4, 0}, 2800);
        node(m, 2, new int[] {1, 0, 0, NONE, 4, NONE, 1, 0}, 1000);
        node(m, 3, new int[] {11, 4, 1, NONE, 4, NONE, 2, 0}, 200);
        node(m, 4, new int[] {1, 1, 1, NONE, NONE, NONE, 1, 0}, 50);
        due("status(6)", m.status(6), 5);
        due("planAt -5", m.planAt(5, 0), -5);
        due("planAt -5", m.planAt(-1, 0), -5);
        due("planAt -5", m.planAt(0, 8), -5);
        due("planAt -5", m.planAt(0, -1), -5);
        due("planCost -5", m.planCost(5), -5);
        due("spell", m.spell(0), 21);
        due("letters", m.letters(0, 22).equals("join 1(scan 0,scan 1)\0") ? 1 : 0, 1);
        due("a PLAN refused leaves it", m.plan(4, 0, NONE), -5);
        due("status(6)", m.status(6), 5);
        m.allow(1, false);
        m.distinct(1, 3);
        node(m, 2, new int[] {1, 0, 0, NONE, 4, NONE, 1, 0}, 1000);
        m.allow(1, true);
        due("plan", m.plan(4, 1, NONE) > 6 ? 1 : 0, 1);
        due("of a HALF", m.planAt(1, 7) + m.planAt(2, 7), 1);
        String all = "tally 1(half 1(join 1(scan 0,scan 1),scan 1))";
        due("spell", m.spell(0), all.length());
        due("letters", m.letters(0, all.length()).equals(all) ? 1 : 0, 1);
        m.row(1, 3, all.length() - 1);
        due("spell -7", m.spell(1), -7);
        due("nothing is put", m.element(1, 0), 0);
        m.row(1, 3, all.length());
        due("spell, just long enough", m.spell(1), all.length());
        due("what is spelled is read", m.read(1), 4);
        due("spell -1", m.spell(8), -1);
        due("spell -2", m.show(2, 0) + m.spell(2), 1 - 2);
        due("spell -3", m.spell(3), -3);

        // 1 + 2 + 4 .. : JOINS of JOINS, 127 NODES at seven levels.
        Counted w = new Counted();
        w.table(1, 1, 0, 4);
        w.scan(0);
        for (int g = 0; g < 6; g++) {
            w.join(0, g, g);
        }
        due("63 NODES", w.plan(5, NONE, NONE), 63);
        due("the first's first", w.planAt(1, 6), 31);
        due("the first's second", w.planAt(32, 2), 4);
        due("plan -7", w.plan(6, NONE, NONE), -7);
        due("as it was", w.status(6), 63);
        w.row(0, 0, 160);
        due("spell -7", w.spell(0), -7);
        // 63 + 31 + 15 + 7 + 1 NODES and two JOINS and a SIEVE: 120.
        w.keep(0, 0);
        w.join(0, 5, 4);
        w.join(0, 3, 2);
        w.join(0, 8, 9);
        due("119 NODES", w.plan(10, NONE, NONE), 63 + 31 + 15 + 7 + 3);
        w.keep(0, 10);
        due("120 NODES", w.plan(11, NONE, NONE), 120);
        w.keep(1, 11);
        due("121 NODES", w.plan(12, NONE, NONE), -7);
        due("the last NODE", w.planAt(119, 0), 1);
    }

    private static void theWay() {
        // HASH and MERGE cost the same of one ROW each: HASH comes first, and PLACE c ahead of 4.
        Counted m = new Counted();
        m.table(1, 1, 0, 0);
        m.scan(0);
        m.join(0, 0, 0);
        m.plan(1, NONE, NONE);
        due("HASH", m.planAt(0, 0), 4);
        due("at c", m.planAt(0, 5), 0);
        m.allow(4, false);
        m.plan(1, NONE, NONE);
        due("MERGE", m.planAt(0, 0), 5);
        due("inputs in ORDER c", m.planAt(1, 3), 0);
        m.allow(5, false);
        m.plan(1, 0, NONE);
        due("LOOP", m.planAt(0, 0), 6);
        due("x in the ORDER demanded", m.planAt(1, 3), 0);
        due("y in any", m.planAt(2, 3), NONE);
        // 2 reads, 1 ROW, 1 work; inputs 1 + SHIP 3 + SORT 2, 1 + SHIP 3.
        due("LOOP at 4", m.costBy(1, 0, 4), 14);
        // Of EXPRESSIONS that cost the same the one of least number.
        Counted e = withScan();
        e.table(1000, 15, NONE, 4);
        e.scan(1);
        e.same(0, 1);
        due("cost", e.cost(1, NONE, NONE), 1000);
        e.plan(1, NONE, NONE);
        due("SCAN 0", e.planAt(0, 1), 0);
        due("GROUP", e.planAt(0, 2), 0);
        due("costBy the other", e.costBy(1, NONE, 4), 1000);
        // Of PLACES that cost the same c, ahead of 4.
        Counted p = new Counted();
        p.table(1000, 15, NONE, 4);
        p.table(1000, 15, NONE, 2);
        p.scan(0);
        p.scan(1);
        p.same(0, 1);
        p.join(2, 0, 0);
        p.tally(2, 0);
        p.plan(2, NONE, NONE);
        due("PAIR at c", p.planAt(0, 5), 2);
        due("its input READS what is parted", p.planAt(1, 1), 1);
        p.plan(3, NONE, NONE);
        due("SUM at c", p.planAt(0, 5), 2);
        due("where: the first", p.where(0, NONE), 2);
        due("COST ahead of same()", p.cost(2, NONE, 1), 15000 + 30000);
        p.table(10, 15, NONE, 1);
        p.same(0, p.scan(2));
        due("COST behind it", p.cost(0, NONE, 1), 1000);
    }

    private static void treesCounted() {
        Counted m = withScan();
        m.table(9, 15, NONE, 4);
        m.scan(1);
        m.join(0, 0, 1);
        m.join(0, 1, 0);
        m.same(2, 3);
        m.keep(0, 2);
        due("no level", m.trees(0, 0), 0);
        due("a SCAN", m.trees(0, 1), 1);
        due("a JOIN has two levels", m.trees(2, 1), 0);
        due("two JOINS", m.trees(3, 2), 2);
        due("KEEP of them", m.trees(4, 2), 0);
        due("KEEP of them", m.trees(4, 12), 2);
        due("trees -1", m.trees(5, -1), -1);
        due("trees -6", m.trees(0, -1), -6);
        due("trees -6", m.trees(0, 13), -6);
        // GROUP 0 with JOINS of itself: 1, 1 + 1, 1 + 4, 1 + 25, 1 + 676, ..
        Counted c = withScan();
        c.join(0, 0, 0);
        c.same(0, 1);
        long trees = 0;
        for (int d = 1; d <= 12; d++) {
            trees = Math.min(1_000_000_000L, trees * trees + 1);
            due("trees of " + d + " levels", c.trees(0, d), trees);
        }
        due("all above it", c.trees(0, 12), 1_000_000_000);
    }

    private static void dealsAndSeed() {
        Counted m = new Counted();
        due("deal -5", m.deal(0), -5);
        due("seed", m.seed(7), 1);
        due("seed", m.seed(-7), 7);
        due("seed", m.seed(1), -7);
        m.table(10, 5, NONE, 4);
        m.table(20, 6, NONE, 4);
        m.scan(0);
        m.scan(1);
        due("deal -6", m.deal(0), -6);
        due("deal -6", m.deal(21), -6);
        due("no DRAW yet", m.status(5), 1);
        int seed = 1;
        int groups = 2;
        int[] columns = new int[64];
        columns[0] = 5;
        columns[1] = 6;
        String there = "";
        for (int round = 0; round < 12; round++) {
            int before = groups;
            for (int i = 0; i < 3; i++) {
                seed = seed * 1103515245 + 12345;
                int c = (seed >>> 16) % 4;
                seed = seed * 1103515245 + 12345;
                int x = (seed >>> 16) % groups;
                seed = seed * 1103515245 + 12345;
                int y = (seed >>> 16) % groups;
                String join = " " + c + "," + x + "," + y + " ";
                if ((columns[x] & columns[y] & 1 << c) != 0 && !there.contains(join) && groups < 64) {
                    there += join;
                    columns[groups] = columns[x] | columns[y];
                    due("COLUMNS", columns[x] | columns[y], columns[groups]);
                    groups++;
                }
            }
            due("deal", m.deal(3), groups - before);
            due("SEED", m.status(5), seed);
            due("GROUPS", m.status(9), groups);
        }
        due("some were dealt", groups > 8 ? 1 : 0, 1);
        due("the last one's COLUMNS", m.group(groups - 1, 2), columns[groups - 1]);
    }

    private static void images() {
        Counted m = withScan();
        due("restore -6", m.restore(), -6);
        m.keep(0, 0);
        m.keep(2, 1);
        m.explore(1);
        m.plan(1, NONE, NONE);
        m.price(4, 1, 1, 1);
        due("image", m.image(), 5);
        int version = m.status(5);
        m.show(0, 2);
        m.show(1, 6);
        m.row(2, 1, 3);
        m.table(5, 15, NONE, 4);
        m.scan(1);
        m.distinct(0, 7);
        m.seed(99);
        m.allow(4, false);
        due("show", m.show(1, 5), 1);
        due("same", m.same(0, 4), 0);
        m.explore(200);
        m.plan(0, NONE, NONE);
        m.price(5, 1, 1, 1);
        m.keep(9, 0);
        fault(m, "x", 0);
        int refusedOnes = m.status(16);
        due("restore", m.restore(), 5);
        due("TABLES", m.status(0), 1);
        due("EXPRESSIONS", m.status(1), 5);
        due("GROUPS", m.status(2), 4);
        due("GROUPS ever made", m.status(9), 4);
        due("FIRINGS", m.status(4), 1);
        due("fired PASS", m.fired(3), 1);
        due("SEED", m.status(5), version);
        due("ALLOWED", m.status(7), 4095);
        due("distinct", m.distinct(0, 100), 100);
        due("THE PLAN stays", m.status(6), 1);
        due("THE TRACE stays", m.trace(1), 50);
        due("REFUSALS stay", m.status(16), refusedOnes);
        due("the FAULT stays", m.fault(), 0);
        due("SHELF 0", m.holds(0), 2);
        due("SHELF 1", m.holds(1), NONE);
        due("SHELF 2", m.holds(2), 101);
        due("cost", m.cost(1, NONE, NONE), 2000);
        firing(m, 4, 3, 3, 1);
        due("explore goes on", m.explore(9), 1);
        due("restore again", m.restore(), 5);
        firing(m, 4, 3, 3, 1);
        due("a new image", m.keep(7, 0) + m.image(), 4 + 6);
        due("restore that", m.restore(), 6);
    }

    private static void goneOnesCount() {
        Counted m = withScan();
        m.keep(1, 0);
        m.keep(0, 0);
        m.keep(0, 1);
        m.same(0, 1);
        due("image counts GONE ones too", m.image(), 4);
        due("costBy of a GONE one", m.costBy(3, 0, 9), -11);
        due("a GROUP of those that are not", m.group(2, 0), 1);
        for (int what : new int[] {-1, 10, 18, Integer.MIN_VALUE, Integer.MAX_VALUE}) {
            due("another status", m.status(what), NONE);
        }
    }

    public static void main(String[] args) {
        Deadline.begin();
        newObject();
        rows();
        copies();
        shown();
        tables();
        toldOnes();
        groupsTold();
        merging();
        texts();
        room();
        turning();
        leaning();
        sinking();
        passing();
        underAndSwap();
        withoutRoom();
        priced();
        allowing();
        costsOfScans();
        costsOfJoins();
        costsOfOthers();
        plans();
        theWay();
        treesCounted();
        dealsAndSeed();
        images();
        goneOnesCount();
        System.out.println(asked + " asked, " + wrong + " not as due");
        if (wrong != 0) {
            System.exit(1);
        }
    }
}
