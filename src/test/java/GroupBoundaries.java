/** The boundaries of GROUPS, how they MERGE and what ROWS they have: promises 19 to 21. */
final class GroupBoundaries {
    private static final int NONE = PlanMemo.NONE;
    private static final int MILLION = 1_000_000;

    private GroupBoundaries() {
    }

    /** GROUPS 0 to n - 1: SCANS of TABLES of n, n + 1, .. ROWS, all COLUMNS. */
    private static Counted scans(int n) {
        Counted m = new Counted();
        for (int t = 0; t < n; t++) {
            m.table(n + t, 15, NONE, 4);
            m.scan(t);
        }
        return m;
    }

    private static int rowsOf(int rows, int distinct, Check.Call told) {
        Counted m = new Counted();
        m.table(rows, 15, NONE, 4);
        m.scan(0);
        m.distinct(1, distinct);
        return m.group((int) told.on(m), 1);
    }

    private static int rowsOfTwo(int first, int second, int distinct, boolean half) {
        Counted m = new Counted();
        m.table(first, 15, NONE, 4);
        m.table(second, 15, NONE, 4);
        m.scan(0);
        m.scan(1);
        m.distinct(1, distinct);
        return m.group(half ? m.half(1, 0, 1) : m.join(1, 0, 1), 1);
    }

    // ---- Terms: GROUPS MERGE

    @Sentence(in = "Terms", says = "all their EXPRESSIONS are in one from then on, whose number is the least of theirs")
    static void merged_under_the_least_number() {
        for (int first = 0; first < 4; first++) {
            for (int second = 0; second < 4; second++) {
                Counted m = scans(4);
                int least = Math.min(first, second);
                Check.due("same(" + first + ", " + second + ")", m.same(first, second), least);
                Check.due("groupOf", m.groupOf(first), least);
                Check.due("groupOf", m.groupOf(second), least);
                Check.due("GROUP of the EXPRESSION", m.expression(first, 4), least);
                Check.due("GROUP of the EXPRESSION", m.expression(second, 4), least);
                Check.due("how many", m.group(least, 0), first == second ? 1 : 2);
                Check.due("GROUPS", m.status(2), first == second ? 4 : 3);
                Check.due("GROUPS ever made", m.status(9), 4);
                for (int g = 0; g < 4; g++) {
                    if (g != first && g != second) {
                        Check.due("another GROUP", m.groupOf(g), g);
                        Check.due("another EXPRESSION", m.expression(g, 4), g);
                    }
                }
            }
        }
    }

    @Sentence(in = "Terms", says = "The number of a GROUP that went into another means that one.")
    static void numbers_that_went_into_others() {
        Counted m = scans(8);
        Check.due("same", m.same(7, 6), 6);
        Check.due("same", m.same(7, 5), 5);
        Check.due("same", m.same(6, 2), 2);
        Check.due("same", m.same(4, 3), 3);
        Check.due("same", m.same(4, 7), 2);
        int[] means = {0, 1, 2, 2, 2, 2, 2, 2};
        for (int g = 0; g < 8; g++) {
            Check.due("groupOf(" + g + ")", m.groupOf(g), means[g]);
            Check.due("GROUP of " + g, m.expression(g, 4), means[g]);
            Check.due("group(" + g + ", 0)", m.group(g, 0), g < 2 ? 1 : 6);
            Check.due("group(" + g + ", 1)", m.group(g, 1), 8 + means[g]);
            Check.due("group(" + g + ", 3)", m.group(g, 3), means[g]);
        }
        Check.due("keep", m.keep(0, 7), 8);
        Check.due("its x", m.expression(8, 2), 2);
        Check.due("tally", m.tally(0, 6), 9);
        Check.due("its x", m.expression(9, 2), 2);
        Check.due("join", m.join(0, 5, 4), 10);
        Check.due("its x", m.expression(10, 2), 2);
        Check.due("its y", m.expression(10, 3), 2);
        Check.due("half", m.half(0, 3, 0), 11);
        Check.due("its x", m.expression(11, 2), 2);
        Check.due("alike", m.half(0, 7, 0), 11);
        Check.due("users", m.group(6, 4), 4);
        Check.due("cost", m.cost(7, NONE, NONE), 10);
        Check.due("demands", m.demands(7, NONE, 0), 2);
        Check.due("within", m.within(7, NONE, 4), 2);
        Check.due("where", m.where(7, NONE), 4);
        Check.due("worth", m.worth(7, NONE, 0, 11), NONE);
        Check.due("trees", m.trees(7, 1), 6);
        Check.due("plan", m.plan(7, NONE, NONE), 1);
        Check.due("GROUP of the NODE", m.planAt(0, 2), 2);
        Check.due("same of two that are one", m.same(7, 3), 2);
    }

    @Sentence(in = "Terms", says = "and each x and y that was one of them is that one.")
    static void inputs_that_merged() {
        Counted m = scans(3);
        m.keep(0, 2);
        m.join(0, 2, 1);
        m.half(0, 1, 2);
        m.tally(0, 1);
        m.same(2, 1);
        int[][] inputs = {{3, 1, NONE}, {4, 1, 1}, {5, 1, 1}, {6, 1, NONE}};
        for (int[] e : inputs) {
            Check.due("x of " + e[0], m.expression(e[0], 2), e[1]);
            Check.due("y of " + e[0], m.expression(e[0], 3), e[2]);
        }
        Check.due("users", m.group(1, 4), 4);
    }

    @Sentence(in = "Terms", says = "If two EXPRESSIONS are ALIKE then, the one of greater number is GONE (in no GROUP)")
    static void the_greater_one_is_gone() {
        Counted m = scans(3);
        m.keep(0, 2);
        m.keep(0, 1);
        m.keep(1, 1);
        Check.due("same", m.same(1, 2), 1);
        Check.due("the lesser", m.expression(3, 5), 0);
        Check.due("its GROUP", m.expression(3, 4), 3);
        Check.due("the greater", m.expression(4, 5), 1);
        Check.due("its GROUP", m.expression(4, 4), NONE);
        Check.due("the GROUP of the greater", m.groupOf(4), 3);
        Check.due("how many", m.group(3, 0), 1);
        Check.due("not ALIKE", m.expression(5, 5), 0);
        Check.due("GONE", m.status(3), 1);
        Check.due("EXPRESSIONS", m.status(1), 6);
        Check.due("GROUPS", m.status(2), 4);
        Check.due("users", m.group(1, 4), 2);
    }

    @Sentence(in = "Terms", says = "and their GROUPS MERGE, until no two are ALIKE.")
    static void until_no_two_are_alike() {
        // Two towers of KEEPS on two SCANS: one step of alike ones brings the next.
        Counted m = scans(2);
        int low = 0;
        int high = 1;
        for (int i = 0; i < 31; i++) {
            low = m.keep(i % 8, low);
            high = m.keep(i % 8, high);
        }
        Check.due("EXPRESSIONS", m.status(1), 64);
        Check.due("same", m.same(1, 0), 0);
        Check.due("GONE", m.status(3), 31);
        Check.due("GROUPS", m.status(2), 32);
        Check.due("the last", m.groupOf(63), 62);
        Check.due("the last", m.expression(63, 5), 1);
        for (int e = 2; e < 64; e++) {
            Check.due("GONE " + e, m.expression(e, 5), e % 2);
        }
        Check.due("as many EXPRESSIONS", m.status(1), 64);
        Check.due("no room comes of it", m.keep(0, 0) + m.tally(0, 0), 2 - 7);

        // Three ALIKE at once; the one of least number stays, and the least GROUP.
        Counted t = scans(3);
        t.keep(0, 2);
        t.keep(0, 1);
        t.keep(0, 0);
        t.same(0, 2);
        Check.due("the first two", t.groupOf(5), 3);
        t.same(1, 0);
        Check.due("GONE", t.status(3), 2);
        Check.due("all three", t.groupOf(4) * 10 + t.groupOf(5), 33);
        Check.due("which stays", t.group(3, 3), 3);
        // ALIKE within one GROUP: one is GONE, no GROUPS MERGE.
        Counted one = scans(2);
        one.keep(0, 0);
        one.keep(0, 1);
        one.same(2, 3);
        Check.due("both are there", one.group(2, 0), 2);
        one.same(0, 1);
        Check.due("one is GONE", one.group(2, 0), 1);
        Check.due("GROUPS", one.status(2), 2);
    }

    /** GROUPS 0 to 6, and 9 EXPRESSIONS: two TURNS brought EXPRESSIONS 5 and 6, and no GROUPS. */
    private static Counted turned() {
        Counted m = new Counted();
        m.table(100, 15, NONE, 4);
        m.table(10, 15, NONE, 4);
        m.table(7, 15, NONE, 4);
        m.scan(0);
        m.scan(1);
        m.scan(2);
        m.join(0, 0, 1);
        m.join(1, 0, 2);
        m.explore(2);
        m.keep(1, 3);
        m.keep(3, 5);
        return m;
    }

    @Sentence(in = "Terms", says = "GROUPS have numbers, from 0 on, in the order in which they were made. Each EXPRESSION")
    static void more_expressions_than_groups() {
        Counted m = turned();
        Check.due("EXPRESSIONS", m.status(1), 9);
        Check.due("GROUPS ever made", m.status(9), 7);
        Check.due("GROUP of the last", m.expression(8, 4), 6);
        Check.due("no such GROUP", m.groupOf(7), -1);
        Check.due("no such GROUP", m.group(8, 0), -5);
        Check.due("what TURN brought is ALIKE", m.join(0, 1, 0), 3);
        Check.due("what TURN brought is ALIKE", m.join(1, 2, 0), 4);
        Check.due("the last is ALIKE", m.keep(3, 5), 6);
        int[] users = {4, 2, 2, 1, 0, 1, 0};
        int[] rows = {100, 10, 7, 10, 7, 5, 2};
        int[] members = {1, 1, 1, 2, 2, 1, 1};
        // HASH of 100 and 10: 110 reads, 10 + 10 works; inputs 110. The SIEVES read 10, then 5.
        long[] costs = {100, 10, 7, 240, 107 + 7 + 7 + 107, 250, 255};
        for (int g = 0; g < 7; g++) {
            Check.due("users of " + g, m.group(g, 4), users[g]);
            Check.due("ROWS of " + g, m.group(g, 1), rows[g]);
            Check.due("members of " + g, m.group(g, 0), members[g]);
            Check.due("COST of " + g, m.cost(g, NONE, NONE), costs[g]);
        }
        Check.due("COST by the JOIN turned", m.costBy(5, NONE, NONE), 110 + 10 + 100 + 110);
        Check.due("COST by the last", m.costBy(8, NONE, NONE), 255);
        Check.due("the last, sorted", m.cost(6, 2, 4), 255 + 2 + 2 * 2);
        Check.due("plan", m.plan(6, 2, 4), 6);
        Check.due("GROUP of its SIEVE", m.planAt(1, 2), 6);
        Check.due("TEST of its SIEVE", m.planAt(1, 1), 3);
        Check.due("TEST of the SIEVE below it", m.planAt(2, 1), 1);
        Check.due("the 10th", m.half(2, 6, 0), 7);
        Check.due("plan of it", m.plan(7, NONE, NONE), 7);
        Check.due("its c", m.planAt(0, 1), 2);
        Check.due("of a HALF", m.planAt(0, 7), 1);
        Check.due("trees of both JOINS", m.trees(3, 2), 2);
        Check.due("trees of the last", m.trees(6, 4), 2);
        Check.due("next", m.next(0), 5);
        Check.due("image", m.image(), 10);
        m.keep(5, 6);
        m.show(0, 9);
        m.show(1, 10);
        Check.due("restore", m.restore(), 10);
        Check.due("a SHELF with the last", m.holds(0), 9);
        Check.due("a SHELF with what was behind it", m.holds(1), NONE);
        Check.due("same", m.same(6, 5), 5);
        Check.due("COST of both", m.cost(6, NONE, NONE), 250);
    }

    // ---- Terms: ROWS

    @Sentence(in = "Terms", says = "ROWS of a GROUP, by its EXPRESSION of least number")
    static void rows_by_the_least_expression() {
        Counted m = scans(2);
        m.keep(0, 1);
        Check.due("ROWS", m.group(1, 1), 3);
        Check.due("same", m.same(2, 0), 0);
        Check.due("ROWS of a SCAN and a KEEP", m.group(2, 1), 2);
        Check.due("same", m.same(0, 1), 0);
        Check.due("ROWS", m.group(1, 1), 2);
        // The GROUP of least number has not the EXPRESSION of least number always: it is told by TURN's.
        Counted t = scans(3);
        t.join(0, 1, 2);
        t.keep(2, 0);
        t.same(3, 4);
        Check.due("JOIN's ROWS", t.group(3, 1), 1);
        t.distinct(0, 1);
        Check.due("JOIN's ROWS", t.group(4, 1), 20);
    }

    @Sentence(in = "Terms", says = "(cut, and 1 at least)")
    static void rows_cut_and_1_at_least() {
        int[][] even = {{1, 1}, {9, 1}, {10, 1}, {11, 1}, {19, 1}, {20, 2}, {29, 2}, {30, 3}, {MILLION, 100_000}, {999_999, 99_999}};
        int[][] odd = {{1, 1}, {2, 1}, {3, 1}, {4, 2}, {5, 2}, {999_999, 499_999}, {MILLION, 500_000}};
        for (int p = 0; p < 8; p++) {
            int test = p;
            for (int[] rows : p % 2 == 0 ? even : odd) {
                Check.due("KEEP " + p + " of " + rows[0], rowsOf(rows[0], 100, m -> m.keep(test, 0)), rows[1]);
            }
        }
        int[][] join = {{1, 1, 2, 1}, {1, 1, MILLION, 1}, {2, 3, 7, 1}, {2, 3, 6, 1}, {2, 3, 5, 1}, {2, 3, 4, 1}, {2, 3, 3, 2},
            {3, 5, 8, 1}, {4, 4, 8, 2}, {23, 1, 8, 2}, {24, 1, 8, 3}};
        for (int[] r : join) {
            Check.due("JOIN of " + r[0] + " and " + r[1] + " by " + r[2], rowsOfTwo(r[0], r[1], r[2], false), r[3]);
        }
    }

    @Sentence(in = "Terms", says = "JOIN those of x times those of y, by DISTINCT of c, 1,000,000 at most;")
    static void rows_a_million_at_most() {
        int[][] join = {{999_999, 1, 1, 999_999}, {MILLION, 1, 1, MILLION}, {500_000, 2, 1, MILLION}, {333_333, 3, 1, 999_999},
            {500_001, 2, 1, MILLION}, {MILLION, 2, 1, MILLION}, {MILLION, MILLION, 1, MILLION}, {MILLION, MILLION, MILLION, MILLION},
            {MILLION, 999_999, MILLION, 999_999}, {MILLION, MILLION, 999_999, MILLION}, {65_536, 65_536, 65_536, 65_536},
            {100_000, 100_000, 20_000, 500_000}};
        for (int[] r : join) {
            Check.due("JOIN of " + r[0] + " and " + r[1] + " by " + r[2], rowsOfTwo(r[0], r[1], r[2], false), r[3]);
        }
    }

    @Sentence(in = "Terms", says = "HALF the less of those of x and what JOIN would have;")
    static void rows_of_half() {
        // x, y, DISTINCT: what JOIN would have is one less than x, as many, one more.
        int[][] half = {{10, 9, 10, 9}, {10, 10, 10, 10}, {10, 11, 10, 10}, {MILLION, MILLION, 1, MILLION}, {1, 1, MILLION, 1},
            {999_999, MILLION, 1, 999_999}, {MILLION, 999_999, MILLION, 999_999}, {5, 1, 10, 1}};
        for (int[] r : half) {
            Check.due("HALF of " + r[0] + " and " + r[1] + " by " + r[2], rowsOfTwo(r[0], r[1], r[2], true), r[3]);
        }
    }

    @Sentence(in = "Terms", says = "TALLY the less of those of x and DISTINCT of c.")
    static void rows_of_tally() {
        int[][] tally = {{10, 9, 9}, {10, 10, 10}, {10, 11, 10}, {1, 1, 1}, {1, MILLION, 1}, {MILLION, MILLION, MILLION},
            {MILLION, 999_999, 999_999}, {999_999, MILLION, 999_999}, {MILLION, 1, 1}};
        for (int[] r : tally) {
            Check.due("TALLY of " + r[0] + " by " + r[1], rowsOf(r[0], r[1], m -> m.tally(1, 0)), r[2]);
        }
        Check.due("another COLUMN's DISTINCT", rowsOf(1000, 5, m -> m.tally(2, 0)), 100);
    }

    // ---- promise 19

    /** GROUPS 0 and 1 of COLUMNS 0 and 1, 2 of COLUMNS 0 to 2, 3 of COLUMN 1 alone, 4 (went into 0). */
    private static Counted some() {
        Counted m = new Counted();
        m.table(10, 3, NONE, 4);
        m.table(11, 3, NONE, 4);
        m.table(12, 7, NONE, 4);
        m.scan(0);
        m.scan(1);
        m.scan(2);
        m.tally(1, 0);
        m.keep(0, 0);
        m.same(4, 0);
        return m;
    }

    @Sentence(in = "Promise 19", says = "-1;")
    static void same_of_no_group() {
        Check.beyond("same g", GroupBoundaries::some, 0, 4, (m, g) -> m.same(g, 0), -1);
        Check.beyond("same h", GroupBoundaries::some, 0, 4, (m, h) -> m.same(0, h), -1);
        Check.refused("both", GroupBoundaries::some, m -> m.same(5, 5), -1);
        Check.refused("-1 ahead of -6", GroupBoundaries::some, m -> m.same(3, 5), -1);
        Check.taken("the last", GroupBoundaries::some, m -> m.same(4, 1), 0);
        Check.taken("the first", GroupBoundaries::some, m -> m.same(1, 0), 0);
    }

    @Sentence(in = "Promise 19", says = "-6 their COLUMNS aren't the same.")
    static void same_of_other_columns() {
        int[] columns = {3, 3, 7, 2, 3};
        for (int g = 0; g < 5; g++) {
            for (int h = 0; h < 5; h++) {
                int one = g;
                int other = h;
                if (columns[g] != columns[h]) {
                    Check.refused("same(" + g + ", " + h + ")", GroupBoundaries::some, m -> m.same(one, other), -6);
                } else {
                    int least = Math.min(g == 4 ? 0 : g, h == 4 ? 0 : h);
                    Check.taken("same(" + g + ", " + h + ")", GroupBoundaries::some, m -> m.same(one, other), least);
                }
            }
        }
    }

    @Sentence(in = "Promise 19", says = "Two GROUPS are told to be the same, and MERGE: the GROUP.")
    static void same_of_one() {
        Check.alike("same of one GROUP changes nothing", () -> {
            Counted m = some();
            Check.due("same of one", m.same(2, 2), 2);
            Check.due("same of one by two numbers", m.same(4, 0), 0);
            return m;
        }, GroupBoundaries::some);
    }

    // ---- promise 20

    @Sentence(in = "Promise 20", says = "-1.")
    static void group_of_none() {
        Check.edges("groupOf", GroupBoundaries::some, 0, 4, (m, g) -> m.groupOf(g), -1);
        Check.edges("groupOf of 64", () -> Check.chain(64), 0, 63, (m, g) -> m.groupOf(g), -1);
        Check.refused("ahead of any", Counted::new, m -> m.groupOf(0), -1);
        Check.taken("the last", GroupBoundaries::some, m -> m.groupOf(4), 0);
        Check.taken("the one ahead of it", GroupBoundaries::some, m -> m.groupOf(3), 3);
    }

    // ---- promise 21

    @Sentence(in = "Promise 21", says = "-5: no such one, another what.")
    static void group_told_of_none() {
        Check.edges("group g", GroupBoundaries::some, 0, 4, (m, g) -> m.group(g, 0), -5);
        Check.edges("group what", GroupBoundaries::some, 0, 4, (m, what) -> m.group(4, what), -5);
        Check.edges("group g of 64", () -> Check.chain(64), 0, 63, (m, g) -> m.group(g, 4), -5);
        Check.refused("ahead of any", Counted::new, m -> m.group(0, 0), -5);
    }

    @Sentence(in = "Promise 21", says = "4 how many EXPRESSIONS have it as x or y.")
    static void users_of_a_group() {
        Counted m = scans(2);
        Check.due("none", m.group(0, 4), 0);
        m.join(0, 0, 0);
        Check.due("one that has it twice", m.group(0, 4), 1);
        m.join(0, 0, 1);
        Check.due("as x", m.group(0, 4), 2);
        m.half(0, 1, 0);
        Check.due("as y", m.group(0, 4), 3);
        m.keep(0, 0);
        m.tally(0, 0);
        Check.due("of KEEP and TALLY", m.group(0, 4), 5);
        Check.due("of the other", m.group(1, 4), 2);
        m.keep(0, 1);
        m.same(0, 1);
        Check.due("GONE ones have none", m.group(1, 4), 4);
        Counted all = Check.chain(1);
        for (int e = 1; e < 64; e++) {
            all.join(0, 0, e - 1);
        }
        Check.due("63 of them", all.group(0, 4), 63);
    }

    @Sentence(in = "Promise 21", says = "0 how many EXPRESSIONS")
    static void members_of_a_group() {
        Counted m = new Counted();
        m.table(10, 15, NONE, 4);
        m.scan(0);
        Check.due("one", m.group(0, 0), 1);
        Check.due("its least", m.group(0, 3), 0);
        for (int e = 1; e < 64; e++) {
            m.join(e % 4, 0, e - 1);
        }
        // All JOINS have one GROUP as x and as y then: the four of COLUMNS 0 to 3 stay, and the SCAN.
        for (int g = 63; g > 0; g--) {
            m.same(g, g - 1);
        }
        Check.due("how many", m.group(63, 0), 5);
        Check.due("GONE", m.status(3), 59);
        Check.due("least", m.group(63, 3), 0);
        Check.due("the 64th is GONE", m.expression(63, 5), 1);
        Counted last = Check.chain(64);
        Check.due("the last GROUP's least", last.group(63, 3), 63);
        Check.due("how many in it", last.group(63, 0), 1);
        last.same(63, 62);
        Check.due("the last two", last.group(63, 0), 2);
    }
}
