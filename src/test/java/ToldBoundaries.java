/** The boundaries of EXPRESSIONS that are TOLD, one by one: promises 12 to 16 and 22. */
final class ToldBoundaries {
    private static final int NONE = PlanMemo.NONE;

    private ToldBoundaries() {
    }

    /** TABLES of COLUMNS 0, 1 and of COLUMNS 1, 2; GROUPS 0 and 1 their SCANS. */
    private static Counted two() {
        Counted m = new Counted();
        m.table(1000, 3, NONE, 4);
        m.table(50, 6, NONE, 4);
        m.scan(0);
        m.scan(1);
        return m;
    }

    /** TABLES 0 to 6 with GROUPS 0 to 6, TABLE 7 without; each has all COLUMNS. */
    private static Counted seven() {
        Counted m = new Counted();
        for (int t = 0; t < 8; t++) {
            m.table(10, 15, NONE, 4);
        }
        for (int t = 0; t < 7; t++) {
            m.scan(t);
        }
        return m;
    }

    /** A TABLE that is not yet SCANNED (1), and so many EXPRESSIONS. */
    private static Counted filled(int expressions) {
        Counted m = Check.scanned();
        m.table(10, 15, NONE, 4);
        Check.fill(m, expressions);
        return m;
    }

    // ---- Terms

    @Sentence(in = "Terms", says = "EXPRESSIONS have numbers, from 0 on, 64 at most, each of a KIND")
    static void sixty_four_expressions_at_most() {
        Check.Call[] tells = {m -> m.scan(1), m -> m.keep(7, 0), m -> m.tally(3, 0), m -> m.join(3, 0, 0), m -> m.half(3, 0, 0)};
        for (int kind = 0; kind < tells.length; kind++) {
            Check.Call tell = tells[kind];
            for (int there : new int[] {62, 63}) {
                Check.taken("TOLD with " + there + " there", () -> filled(there), tell, there);
                Check.taken("EXPRESSIONS then", () -> filled(there), m -> tell.on(m) * 0 + m.status(1), there + 1);
            }
            Check.refused("TOLD with 64 there", () -> filled(64), tell, -7);
            Counted m = filled(63);
            Check.due("the 64th", tell.on(m), 63);
            Check.due("the 64th again", tell.on(m), 63);
            Check.due("its KIND", m.expression(63, 0), new int[] {1, 3, 4, 5, 6}[kind]);
            Check.due("the 65th", m.keep(5, 0), -7);
            Check.due("no such", m.expression(64, 0), -5);
            Check.due("no such GROUP", m.groupOf(64), -1);
            Check.due("EXPRESSIONS", m.status(1), 64);
        }
    }

    /** 64 EXPRESSIONS in fewer GROUPS: TURNS bring no GROUP. */
    private static Counted filledByTurns(int expressions) {
        Counted m = new Counted();
        m.table(10, 15, NONE, 4);
        m.table(10, 15, NONE, 4);
        m.table(10, 15, NONE, 4);
        m.scan(0);
        m.scan(1);
        m.join(0, 0, 1);
        m.join(1, 0, 1);
        m.explore(2);
        Check.fill(m, expressions);
        return m;
    }

    @Sentence(in = "Terms", says = "EXPRESSIONS have numbers, from 0 on, 64 at most")
    static void sixty_four_though_groups_are_fewer() {
        Check.due("GROUPS ever made", filledByTurns(64).status(9), 62);
        Check.Call[] tells = {m -> m.scan(2), m -> m.keep(7, 0), m -> m.tally(3, 0), m -> m.join(3, 0, 0), m -> m.half(3, 0, 0)};
        for (Check.Call tell : tells) {
            Check.taken("the 64th", () -> filledByTurns(63), tell, 61);
            Check.taken("its number", () -> filledByTurns(63), m -> tell.on(m) * 0 + m.expression(63, 4), 61);
            Check.refused("the 65th", () -> filledByTurns(64), tell, -7);
        }
        Check.refused("read", () -> {
            Counted m = filledByTurns(64);
            m.text(7, 0, "scan 2");
            return m;
        }, m -> m.read(7), -7);
        Check.refused("read", () -> {
            Counted m = filledByTurns(63);
            m.text(7, 0, "keep 0(scan 2)");
            return m;
        }, m -> m.read(7), -7);
        Counted deal = filledByTurns(64);
        Check.due("deal", deal.deal(20), 0);
        Check.due("GROUPS ever made", deal.status(9), 62);
        Counted last = filledByTurns(63);
        Check.due("deal", last.deal(20), 1);
        Check.due("GROUPS ever made", last.status(9), 62);
        // A TEXT without room leaves nothing in what is made next, a TURN's EXPRESSION in a GROUP that is there.
        Counted m = new Counted();
        m.table(10, 15, NONE, 4);
        m.table(10, 15, NONE, 4);
        m.scan(0);
        m.scan(1);
        m.join(0, 0, 1);
        Check.fill(m, 62);
        Check.due("read", m.read("keep 7(keep 6(keep 5(scan 0)))"), -7);
        Check.due("TURN", m.explore(1), 1);
        Check.due("how many", m.group(2, 0), 2);
        Check.due("the 64th", m.keep(7, 0), 62);
        Check.due("alone in its GROUP", m.group(62, 0), 1);
        Check.due("its number", m.group(62, 3), 63);
        Check.due("GROUP of the 63rd", m.expression(62, 4), 2);
    }

    @Sentence(in = "Terms", says = "None is of KIND 0 or 2 itself.")
    static void none_is_of_kind_0_or_2() {
        Counted m = two();
        m.keep(2, 0);
        m.tally(1, 0);
        m.join(1, 0, 1);
        m.half(1, 0, 1);
        int[] kinds = {1, 1, 3, 4, 5, 6};
        for (int e = 0; e < kinds.length; e++) {
            Check.due("KIND of " + e, m.expression(e, 0), kinds[e]);
        }
    }

    @Sentence(in = "Terms", says = "p a TEST (0 to 7; its COLUMN is p / 2, cut)")
    static void tests_0_to_7() {
        for (int c = 0; c < 4; c++) {
            for (int p = -2; p <= 9; p++) {
                Counted m = new Counted();
                m.table(10, 1 << c, NONE, 4);
                m.scan(0);
                Check.due("keep(" + p + ") with COLUMN " + c, m.keep(p, 0), p >= 0 && (p == 2 * c || p == 2 * c + 1) ? 1 : -6);
            }
        }
    }

    @Sentence(in = "Terms", says = "GROUPS have numbers, from 0 on, in the order in which they were made.")
    static void groups_in_the_order_they_were_made() {
        Counted m = two();
        Check.due("keep", m.keep(2, 0), 2);
        Check.due("one that is there makes none", m.keep(2, 0), 2);
        Check.due("one refused makes none", m.keep(9, 0), -6);
        Check.due("tally", m.tally(1, 1), 3);
        Check.due("same makes none", m.same(0, 2), 0);
        Check.due("join", m.join(1, 0, 1), 4);
        Check.due("ONCE of KEEP 2, which is in its own GROUP, and TURN make none", m.explore(2), 2);
        Check.due("EXPRESSIONS", m.status(1), 6);
        Check.due("the next", m.half(1, 0, 1), 5);
        Check.due("its EXPRESSION", m.group(5, 3), 6);
        Check.due("GROUPS ever made", m.status(9), 6);
    }

    @Sentence(in = "Terms", says = "Each EXPRESSION is in one GROUP.")
    static void each_is_in_one_group() {
        Counted m = Check.busy();
        int members = 0;
        for (int g = 0; g < m.status(9); g++) {
            members += m.groupOf(g) == g ? m.group(g, 0) : 0;
        }
        Check.due("EXPRESSIONS of all GROUPS", members, m.status(1) - m.status(3));
    }

    @Sentence(in = "Terms", says = "SCAN those of t; KEEP, HALF those of x; TALLY c alone; JOIN those of x or y.")
    static void columns_of_groups() {
        Counted m = two();
        int[][] columns = {{0, 3}, {1, 6}, {m.keep(0, 0), 3}, {m.keep(5, 1), 6}, {m.half(1, 0, 1), 3}, {m.half(1, 1, 0), 6},
            {m.tally(0, 0), 1}, {m.tally(1, 0), 2}, {m.tally(2, 1), 4}, {m.join(1, 0, 1), 7}, {m.join(1, 1, 0), 7},
            {m.join(1, 1, 1), 6}};
        for (int[] c : columns) {
            Check.due("COLUMNS of " + c[0], m.group(c[0], 2), c[1]);
        }
    }

    @Sentence(in = "Terms", says = "An EXPRESSION may be only if the COLUMN of p is one of x; c, of TALLY, one of x;")
    static void may_be_by_the_columns_of_x() {
        for (int columns = 1; columns <= 15; columns++) {
            for (int c = 0; c < 4; c++) {
                Counted m = new Counted();
                m.table(10, columns, NONE, 4);
                m.scan(0);
                boolean may = (columns >> c & 1) == 1;
                Check.due("keep " + 2 * c + " of COLUMNS " + columns, m.keep(2 * c, 0), may ? 1 : -6);
                Check.due("keep " + (2 * c + 1) + " of COLUMNS " + columns, m.keep(2 * c + 1, 0), may ? 2 : -6);
                Check.due("tally " + c + " of COLUMNS " + columns, m.tally(c, 0), may ? 3 : -6);
            }
        }
    }

    @Sentence(in = "Terms", says = "c, of JOIN and HALF, one of x and one of y.")
    static void may_be_by_the_columns_of_both() {
        for (int first = 1; first <= 15; first++) {
            for (int second = 1; second <= 15; second++) {
                Counted m = new Counted();
                m.table(10, first, NONE, 4);
                m.table(10, second, NONE, 4);
                m.scan(0);
                m.scan(1);
                int next = 2;
                for (int c = 0; c < 4; c++) {
                    boolean may = (first & second & 1 << c) != 0;
                    String of = c + " of COLUMNS " + first + " and " + second;
                    Check.due("join " + of, m.join(c, 0, 1), may ? next : -6);
                    Check.due("half " + of, m.half(c, 0, 1), may ? next + 1 : -6);
                    next += may ? 2 : 0;
                }
            }
        }
    }

    @Sentence(in = "Terms", says = "ALIKE are two of the very same KIND with the same t, c or p and the same GROUPS.")
    static void alike_in_all() {
        Counted m = new Counted();
        m.table(10, 15, NONE, 4);
        m.table(10, 15, NONE, 4);
        Check.Call[] all = {x -> x.scan(0), x -> x.scan(1), x -> x.keep(0, 0), x -> x.keep(1, 0), x -> x.keep(0, 1),
            x -> x.tally(0, 0), x -> x.tally(1, 0), x -> x.tally(0, 1), x -> x.join(0, 0, 1), x -> x.join(1, 0, 1),
            x -> x.join(0, 1, 0), x -> x.join(0, 0, 0), x -> x.half(0, 0, 1), x -> x.half(1, 0, 1), x -> x.half(0, 1, 0),
            x -> x.half(0, 0, 0)};
        for (int round = 0; round < 2; round++) {
            for (int g = 0; g < all.length; g++) {
                Check.due("TOLD " + g + ", round " + round, all[g].on(m), g);
            }
        }
        Check.due("EXPRESSIONS", m.status(1), all.length);
    }

    @Sentence(in = "Terms", says = "One is TOLD: if one ALIKE is there, its GROUP is meant;")
    static void one_alike_needs_no_room() {
        Counted m = Check.scanned();
        m.keep(2, 0);
        m.tally(2, 0);
        m.join(2, 0, 0);
        m.half(2, 0, 0);
        m.same(1, 4);
        Check.fill(m, 64);
        Check.due("scan", m.scan(0), 0);
        Check.due("keep", m.keep(2, 0), 1);
        Check.due("tally", m.tally(2, 0), 2);
        Check.due("join", m.join(2, 0, 0), 3);
        Check.due("half, whose GROUP went into another", m.half(2, 0, 0), 1);
        Check.due("read", m.read("half 2(scan 0,scan 0)"), 1);
        Check.due("nothing is refused", m.refusals(7), 0);
        Check.due("nothing is new", m.status(1), 64);
    }

    @Sentence(in = "Terms", says = "else it becomes the next EXPRESSION, in a new GROUP.")
    static void else_the_next_in_a_new_group() {
        Counted m = two();
        m.keep(2, 0);
        m.keep(2, 2);
        m.same(0, 2);
        // KEEP 2 of GROUP 2 is ALIKE to KEEP 2 of GROUP 0 then, and GONE: EXPRESSION 3 of GROUP 3.
        Check.due("GONE", m.status(3), 1);
        Check.due("EXPRESSIONS", m.status(1), 4);
        Check.due("one that is GONE is not ALIKE", m.keep(3, 0), 4);
        Check.expression(m, 4, 3, 3, 0, NONE, 4, 0);
        Check.due("tally of a number that went", m.tally(0, 3), 5);
        Check.expression(m, 5, 4, 0, 0, NONE, 5, 0);
        Check.due("alike to it", m.tally(0, 0), 5);
    }

    // ---- promise 12

    @Sentence(in = "Promise 12", says = "-1;")
    static void scan_of_no_table() {
        Check.edges("scan", ToldBoundaries::seven, 0, 7, (m, t) -> m.scan(t), -1);
        Check.edges("scan", ToldBoundaries::two, 0, 1, (m, t) -> m.scan(t), -1);
        Check.refused("no TABLE", Counted::new, m -> m.scan(0), -1);
        Check.refused("-1 ahead of -7", () -> filled(64), m -> m.scan(2), -1);
    }

    @Sentence(in = "Promise 12", says = "-7.")
    static void scan_without_room() {
        Check.taken("scan as the 64th", () -> filled(63), m -> m.scan(1), 63);
        Check.refused("scan as the 65th", () -> filled(64), m -> m.scan(1), -7);
        Check.taken("scan that is there", () -> filled(64), m -> m.scan(0), 0);
    }

    // ---- promise 13

    @Sentence(in = "Promise 13", says = "-1 x;")
    static void keep_of_no_group() {
        Check.edges("keep of x", ToldBoundaries::seven, 0, 6, (m, x) -> m.keep(0, x), -1);
        Check.refused("-1 ahead of -6 p", ToldBoundaries::seven, m -> m.keep(8, 7), -1);
        Check.refused("-1 ahead of -7", () -> filled(64), m -> m.keep(0, 64), -1);
        Check.refused("no GROUP", Counted::new, m -> m.keep(0, 0), -1);
        Check.taken("x the 63rd GROUP", () -> Check.chain(63), m -> m.keep(0, 62), 63);
        Check.taken("what is there, of the 63rd GROUP", () -> Check.chain(64), m -> m.keep(1, 62), 63);
    }

    @Sentence(in = "Promise 13", says = "-6 p, one that may not be;")
    static void keep_that_may_not_be() {
        Check.edges("keep p", ToldBoundaries::seven, 0, 7, (m, p) -> m.keep(p, 3), -6);
        Check.edges("keep p of COLUMNS 0 and 1", ToldBoundaries::two, 0, 3, (m, p) -> m.keep(p, 0), -6);
        Check.edges("keep p of COLUMNS 1 and 2", ToldBoundaries::two, 2, 5, (m, p) -> m.keep(p, 1), -6);
        Check.refused("-6 p ahead of -7", () -> filled(64), m -> m.keep(8, 0), -6);
        Check.refused("-6 ahead of -7", () -> {
            Counted m = two();
            Check.fill(m, 2);
            for (int e = 2; e < 64; e++) {
                m.keep(2 + e % 2, e - 1);
            }
            return m;
        }, m -> m.keep(4, 0), -6);
    }

    @Sentence(in = "Promise 13", says = "-7.")
    static void keep_without_room() {
        Check.taken("keep as the 64th", () -> filled(63), m -> m.keep(7, 0), 63);
        Check.refused("keep as the 65th", () -> filled(64), m -> m.keep(7, 0), -7);
    }

    // ---- promise 14

    @Sentence(in = "Promise 14", says = "-1 also c;")
    static void tally_of_no_column_or_group() {
        Check.edges("tally c", ToldBoundaries::seven, 0, 3, (m, c) -> m.tally(c, 0), -1);
        Check.edges("tally of x", ToldBoundaries::seven, 0, 6, (m, x) -> m.tally(0, x), -1);
        Check.refused("both", ToldBoundaries::seven, m -> m.tally(4, 7), -1);
        Check.refused("-1 ahead of -7", () -> filled(64), m -> m.tally(4, 0), -1);
        Check.refused("-1 ahead of -6", ToldBoundaries::two, m -> m.tally(2, 2), -1);
    }

    @Sentence(in = "Promise 14", says = "-6 one that may not be;")
    static void tally_that_may_not_be() {
        Check.refused("not in x", ToldBoundaries::two, m -> m.tally(2, 0), -6);
        Check.refused("not in x", ToldBoundaries::two, m -> m.tally(3, 0), -6);
        Check.refused("not in x", ToldBoundaries::two, m -> m.tally(0, 1), -6);
        Check.taken("in x", ToldBoundaries::two, m -> m.tally(1, 0), 2);
        Check.taken("in x", ToldBoundaries::two, m -> m.tally(1, 1), 2);
        Check.refused("-6 ahead of -7", () -> {
            Counted m = Check.scanned();
            m.tally(1, 0);
            Check.fill(m, 2);
            for (int e = 2; e < 64; e++) {
                m.keep(2 + e % 2, e - 1);
            }
            return m;
        }, m -> m.tally(0, 1), -6);
    }

    @Sentence(in = "Promise 14", says = "-7.")
    static void tally_without_room() {
        Check.taken("tally as the 64th", () -> filled(63), m -> m.tally(3, 0), 63);
        Check.refused("tally as the 65th", () -> filled(64), m -> m.tally(3, 0), -7);
    }

    // ---- promises 15 and 16

    private interface Pair {
        int told(Counted m, int c, int x, int y);
    }

    private static void noColumnOrGroup(Pair pair) {
        Check.edges("c", ToldBoundaries::seven, 0, 3, (m, c) -> pair.told(m, c, 0, 1), -1);
        Check.edges("x", ToldBoundaries::seven, 0, 6, (m, x) -> pair.told(m, 0, x, 1), -1);
        Check.edges("y", ToldBoundaries::seven, 0, 6, (m, y) -> pair.told(m, 0, 1, y), -1);
        Check.refused("-1 ahead of -6", ToldBoundaries::two, m -> pair.told(m, 3, 0, 2), -1);
        Check.refused("-1 ahead of -7", () -> filled(64), m -> pair.told(m, 4, 0, 0), -1);
        Check.refused("-1 ahead of -7", () -> filled(64), m -> pair.told(m, 0, 64, 0), -1);
        Check.refused("-1 ahead of -7", () -> filled(64), m -> pair.told(m, 0, 0, 64), -1);
    }

    private static void mayNotBe(Pair pair) {
        Check.refused("not in x", ToldBoundaries::two, m -> pair.told(m, 2, 0, 1), -6);
        Check.refused("not in y", ToldBoundaries::two, m -> pair.told(m, 0, 0, 1), -6);
        Check.refused("not in x", ToldBoundaries::two, m -> pair.told(m, 0, 1, 0), -6);
        Check.refused("not in y", ToldBoundaries::two, m -> pair.told(m, 2, 1, 0), -6);
        Check.refused("in neither", ToldBoundaries::two, m -> pair.told(m, 3, 0, 1), -6);
        Check.taken("in both", ToldBoundaries::two, m -> pair.told(m, 1, 0, 1), 2);
        Check.taken("in both", ToldBoundaries::two, m -> pair.told(m, 1, 1, 0), 2);
        Check.taken("of one GROUP", ToldBoundaries::two, m -> pair.told(m, 2, 1, 1), 2);
        Check.refused("-6 ahead of -7", () -> {
            Counted m = two();
            for (int e = 2; e < 64; e++) {
                m.keep(2 + e % 2, e - 1);
            }
            return m;
        }, m -> pair.told(m, 0, 0, 1), -6);
    }

    private static void noRoom(Pair pair) {
        Check.taken("as the 64th", () -> filled(63), m -> pair.told(m, 3, 0, 0), 63);
        Check.refused("as the 65th", () -> filled(64), m -> pair.told(m, 3, 0, 0), -7);
    }

    @Sentence(in = "Promise 15", says = "-1 also c;")
    static void join_of_no_column_or_group() {
        noColumnOrGroup((m, c, x, y) -> m.join(c, x, y));
    }

    @Sentence(in = "Promise 15", says = "-6 one that may not be;")
    static void join_that_may_not_be() {
        mayNotBe((m, c, x, y) -> m.join(c, x, y));
    }

    @Sentence(in = "Promise 15", says = "-7.")
    static void join_without_room() {
        noRoom((m, c, x, y) -> m.join(c, x, y));
    }

    @Sentence(in = "Promise 16", says = "-1 also c;")
    static void half_of_no_column_or_group() {
        noColumnOrGroup((m, c, x, y) -> m.half(c, x, y));
    }

    @Sentence(in = "Promise 16", says = "-6 one that may not be;")
    static void half_that_may_not_be() {
        mayNotBe((m, c, x, y) -> m.half(c, x, y));
    }

    @Sentence(in = "Promise 16", says = "-7.")
    static void half_without_room() {
        noRoom((m, c, x, y) -> m.half(c, x, y));
    }

    // ---- promise 22

    /** EXPRESSIONS 0 SCAN, 1 KEEP 1, 2 KEEP 4, 3 KEEP 4 of KEEP 1, which is GONE; 4 JOIN 2, 5 HALF 3, 6 TALLY 0. */
    private static Counted withGone() {
        Counted m = Check.scanned();
        m.keep(1, 0);
        m.keep(4, 0);
        m.keep(4, 1);
        m.join(2, 2, 3);
        m.half(3, 3, 0);
        m.tally(0, 4);
        m.same(1, 0);
        return m;
    }

    @Sentence(in = "Promise 22", says = "-5: no such one, another what.")
    static void expression_of_none() {
        Check.edges("expression e", ToldBoundaries::withGone, 0, 6, (m, e) -> m.expression(e, 0), -5);
        Check.edges("expression what", ToldBoundaries::withGone, 0, 5, (m, what) -> m.expression(6, what), -5);
        Check.edges("expression of one GONE, what", ToldBoundaries::withGone, 0, 5, (m, what) -> m.expression(3, what), -5);
        Check.edges("expression e of 64", () -> Check.chain(64), 0, 63, (m, e) -> m.expression(e, 5), -5);
        Check.refused("ahead of any", Counted::new, m -> m.expression(0, 0), -5);
    }

    @Sentence(in = "Promise 22", says = "x, y, GROUP: NONE if there is none, or it is GONE.")
    static void expression_told() {
        Counted m = withGone();
        Check.expression(m, 0, 1, 0, NONE, NONE, 0, 0);
        Check.expression(m, 1, 3, 1, 0, NONE, 0, 0);
        Check.expression(m, 2, 3, 4, 0, NONE, 2, 0);
        Check.expression(m, 3, 3, 4, NONE, NONE, NONE, 1);
        Check.expression(m, 4, 5, 2, 2, 2, 4, 0);
        Check.expression(m, 5, 6, 3, 2, 0, 5, 0);
        Check.expression(m, 6, 4, 0, 4, NONE, 6, 0);
        // A JOIN that is GONE has no y either.
        Counted j = Check.scanned();
        j.keep(1, 0);
        j.join(0, 0, 0);
        j.join(0, 1, 1);
        j.same(0, 1);
        Check.expression(j, 3, 5, 0, NONE, NONE, NONE, 1);
    }
}
