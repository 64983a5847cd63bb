/** Sentences of the document's terms that name no boundary: TABLES, EXPRESSIONS, GROUPS, TEXTS, RULES, REFUSALS. */
final class TermSentences {
    private static final int NONE = PlanMemo.NONE;

    private TermSentences() {
    }

    // ---- What it is

    @Sentence(in = "What it is", says = "Memo optimiser: tables with columns, orders and places, expressions in groups of equals that merge "
        + "when two are alike, rules that fire once each, orders and places demanded downward, ways with prices, sorting and shipping "
        + "between, the cheapest plan of a demand, plans told node by node and spelled back, trees counted, expressions read from texts. "
        + "==== 1.")
    static void all_of_it_in_one_run() {
        Counted m = new Counted();
        Check.due("a TABLE", m.table(1000, 3, 0, 4), 0);
        Check.due("a TABLE", m.table(50, 6, NONE, 1), 1);
        Check.due("read", m.read("join 1(keep 1(scan 0),scan 1)"), 3);
        // HASH 550 + 300, SIEVE and READ 1000 each, READ 50 and SHIP 150.
        Check.due("cost", m.cost(3, NONE, NONE), 3050);
        // 250 ROWS have eight binary digits: SORT 250 + 2000.
        Check.due("cost in ORDER", m.cost(3, 1, 4), 5300);
        Check.due("plan", m.plan(3, 1, 4), 6);
        int[] kinds = {10, 4, 2, 1, 11, 1};
        long[] costs = {5300, 3050, 2000, 1000, 200, 50};
        for (int i = 0; i < kinds.length; i++) {
            Check.due("KIND of NODE " + i, m.planAt(i, 0), kinds[i]);
            Check.due("COST of NODE " + i, m.planCost(i), costs[i]);
        }
        m.row(0, 1, 29);
        Check.due("spell", m.spell(0), 29);
        Check.due("spelled", m.letters(0, 29), "join 1(keep 1(scan 0),scan 1)");
        Check.due("trees", m.trees(3, 3), 1);
        Check.due("explore: TURN, there and back", m.explore(9), 2);
        Check.due("trees", m.trees(3, 3), 2);
        m.table(10, 3, NONE, 4);
        Check.due("scan", m.scan(2), 4);
        Check.due("keep", m.keep(1, 4), 5);
        Check.due("same", m.same(4, 0), 0);
        Check.due("GONE", m.status(3), 1);
        Check.due("merged", m.groupOf(5), 1);
        Check.due("trees", m.trees(3, 3), 4);
    }

    // ---- Terms

    @Sentence(in = "Terms", says = "TABLES, EXPRESSIONS, GROUPS\nCOLUMNS 0 to 3; a set of them is bits 0 to 3. Of each COLUMN DISTINCT")
    static void each_column_has_its_distinct() {
        Counted m = Check.scanned();
        for (int c = 0; c < 4; c++) {
            Check.due("DISTINCT of " + c, m.distinct(c, 11 * (c + 1)), 100);
        }
        for (int c = 0; c < 4; c++) {
            int g = m.tally(c, 0);
            Check.due("ROWS by DISTINCT of " + c, m.group(g, 1), 11 * (c + 1));
            Check.due("COLUMNS", m.group(g, 2), 1 << c);
        }
        for (int c = 3; c >= 0; c--) {
            Check.due("DISTINCT of " + c, m.distinct(c, 1), 11 * (c + 1));
        }
    }

    @Sentence(in = "Terms", says = "each of a KIND: 0 EXPRESSION; 1 SCAN t, 2 SINGLE, 5 JOIN c of x and y, each under EXPRESSION; 3 KEEP p of x, "
        + "4 TALLY c of x, each under SINGLE; 6 HALF c of x and y, under JOIN. None is of KIND 0 or 2 itself.")
    static void kinds_and_what_they_are_under() {
        Counted m = Check.scans(15, 15);
        m.keep(3, 0);
        m.tally(2, 1);
        m.join(1, 0, 1);
        m.half(3, 1, 0);
        Check.expression(m, 0, 1, 0, NONE, NONE);
        Check.expression(m, 1, 1, 1, NONE, NONE);
        Check.expression(m, 2, 3, 3, 0, NONE);
        Check.expression(m, 3, 4, 2, 1, NONE);
        Check.expression(m, 4, 5, 1, 0, 1);
        Check.expression(m, 5, 6, 3, 1, 0);
        int[] above = {NONE, 0, 0, 2, 2, 0, 5};
        for (int e = 0; e < 6; e++) {
            m.show(0, e);
            int kind = m.expression(e, 0);
            for (int taken = 0; taken <= 6; taken++) {
                boolean under = taken == kind || taken == above[kind] || taken == 0;
                Check.due("KIND " + kind + " is one of " + taken, m.says(0, taken) != -2, under);
            }
        }
    }

    @Sentence(in = "Terms", says = "t is a TABLE, c a COLUMN, p a TEST (0 to 7; its COLUMN is p / 2, cut), x and y are GROUPS.")
    static void tables_columns_tests_groups() {
        Counted m = Check.scans(15, 15);
        Check.due("scan of no TABLE", m.scan(2), -1);
        Check.due("tally of no COLUMN", m.tally(4, 0), -1);
        Check.due("join of no COLUMN", m.join(4, 0, 1), -1);
        Check.due("half of no COLUMN", m.half(-1, 0, 1), -1);
        Check.due("keep by no TEST", m.keep(8, 0), -6);
        Check.due("join", m.join(0, 0, 1), 2);
        Check.due("explore", m.explore(1), 1);
        // EXPRESSION 3 is in GROUP 2; the next GROUP is 3, and that is what x and y are.
        Check.due("keep of no GROUP, but an EXPRESSION", m.keep(0, 3), -1);
        Check.due("keep", m.keep(5, 2), 3);
        Check.due("keep", m.keep(6, 3), 4);
        Check.due("join", m.join(2, 4, 3), 5);
        Check.expression(m, 4, 3, 5, 2, NONE, 3, 0);
        Check.expression(m, 5, 3, 6, 3, NONE, 4, 0);
        Check.expression(m, 6, 5, 2, 4, 3, 5, 0);
    }

    @Sentence(in = "Terms", says = "COLUMNS of a GROUP (its EXPRESSIONS all have the same): SCAN those of t; KEEP, HALF those of x; TALLY c alone; "
        + "JOIN those of x or y.")
    static void all_of_a_group_have_its_columns() {
        Counted m = Check.scans(7, 14);
        m.table(100, 7, NONE, 4);
        m.same(m.scan(2), 0);
        int joined = m.join(1, 0, 1);
        m.keep(2, joined);
        m.tally(1, m.half(2, 1, m.keep(4, 0)));
        m.explore(6);
        int all = m.status(1);
        for (int e = 0; e < all; e++) {
            int kind = m.expression(e, 0);
            int own = m.expression(e, 1);
            int ofX = m.group(m.expression(e, 2), 2);
            int ofY = m.group(m.expression(e, 3), 2);
            int columns = kind == 1 ? m.tableOf(own, 1) : kind == 4 ? 1 << own : kind == 5 ? ofX | ofY : ofX;
            Check.due("COLUMNS of the GROUP of " + e, m.group(m.expression(e, 4), 2), columns);
        }
        Check.due("of several KINDS", all > 12 && m.fired(0) > 0 && m.fired(2) > 0, true);
    }

    @Sentence(in = "Terms", says = "GROUPS MERGE: all their EXPRESSIONS are in one from then on")
    static void groups_merge_into_one() {
        Counted m = Check.scans(15, 15, 15);
        m.keep(0, 0);
        m.keep(1, 1);
        Check.due("same", m.same(4, 2), 2);
        Check.due("same", m.same(2, 0), 0);
        int[] groups = {0, 1, 0, 3, 0};
        for (int e = 0; e < groups.length; e++) {
            Check.due("GROUP of " + e, m.expression(e, 4), groups[e]);
            Check.due("GROUP of number " + e, m.groupOf(e), groups[e]);
        }
        Check.due("how many", m.group(0, 0), 3);
        Check.due("GROUPS", m.status(2), 3);
    }

    @Sentence(in = "Terms", says = "ROWS of a GROUP, by its EXPRESSION of least number (cut, and 1 at least): SCAN of t; KEEP those of x by 10, "
        + "if p is even, by 2, if it is odd;")
    static void rows_of_scans_and_keeps() {
        Counted m = new Counted();
        int[] rows = {1, 2, 9, 10, 11, 4321, 1_000_000};
        for (int t = 0; t < rows.length; t++) {
            m.table(rows[t], 15, NONE, 4);
            int g = m.scan(t);
            Check.due("ROWS of a SCAN", m.group(g, 1), rows[t]);
            for (int p = 0; p < 8; p++) {
                int want = Math.max(1, rows[t] / (p % 2 == 0 ? 10 : 2));
                Check.due("ROWS of KEEP " + p + " of " + rows[t], m.group(m.keep(p, g), 1), want);
            }
        }
    }

    @Sentence(in = "Terms", says = "A TEXT is read from a ROW of letters: EXPRESSION: scan T")
    static void texts_are_read_from_rows_of_letters() {
        for (int sort = 0; sort <= 3; sort++) {
            Counted m = Check.scans(15, 15);
            m.text(3, sort, "tally 2(half 3(keep 7(scan 1),join 0(scan 1,scan 0)))");
            Check.due("read", m.read(3), 5);
            Check.expression(m, 2, 3, 7, 1, NONE, 2);
            Check.expression(m, 3, 5, 0, 1, 0, 3);
            Check.expression(m, 4, 6, 3, 2, 3, 4);
            Check.expression(m, 5, 4, 2, 4, NONE, 5);
            m.text(3, sort, "scan 1");
            Check.due("read", m.read(3), 1);
            Check.due("EXPRESSIONS", m.status(1), 6);
        }
    }

    // ---- 2. RULES

    @Sentence(in = "2. RULES", says = "A FIRING (e, RULE, f): EXPRESSIONS e and f (not GONE)")
    static void a_firing_is_of_expressions() {
        // In GROUP 1 are EXPRESSIONS 1 and 3, in GROUP 2 EXPRESSION 2: e and f are none of GROUPS.
        Counted m = Check.scans(15);
        m.keep(0, 0);
        m.keep(1, 1);
        m.same(m.keep(2, 0), 1);
        Check.firing(m, 2, 3, 1, 1);
        Check.due("explore", m.explore(1), 1);
        Check.firing(m, 2, 3, 3, 1);
    }

    @Sentence(in = "2. RULES", says = "What comes of it is told for the GROUP of e:")
    static void told_for_the_group_of_e() {
        Counted m = Check.scans(15);
        m.keep(0, 0);
        m.keep(1, 1);
        // (2, PASS, 1): KEEP 1 of GROUP 0 is TOLD in a new GROUP, KEEP 0 of that in the GROUP of 2.
        Check.due("explore", m.explore(1), 1);
        Check.expression(m, 3, 3, 1, 0, NONE, 3, 0);
        Check.expression(m, 4, 3, 0, 3, NONE, 2, 0);
        int[] members = {1, 1, 2, 1};
        for (int g = 0; g < members.length; g++) {
            Check.due("how many in GROUP " + g, m.group(g, 0), members[g]);
        }
    }

    @Sentence(in = "2. RULES", says = "1 LEAN: e JOIN c of x and z, f JOIN d of u and v, c one of the COLUMNS of v: JOIN d of u and [JOIN c of v and z].")
    static void lean() {
        Counted m = Check.scans(3, 6, 12);
        m.join(1, 0, 1);
        m.join(2, 3, 2);
        Check.due("TURN of both", m.explore(2), 2);
        Check.firing(m, 4, 1, 3, 1);
        Check.due("explore", m.explore(1), 1);
        Check.expression(m, 7, 5, 2, 1, 2, 5, 0);
        Check.expression(m, 8, 5, 1, 0, 5, 4, 0);
        Check.due("fired LEAN", m.fired(1), 1);
        // f 5 is JOIN 1 of GROUPS 1 and 0, and COLUMN 2 is none of GROUP 0.
        Check.firing(m, 5, 0, NONE, 1);
    }

    @Sentence(in = "2. RULES", says = "2 SINK: e KEEP p of x, f JOIN or HALF c of u and v, the COLUMN of p one of u: f's KIND, c, of [KEEP p of u] and v.")
    static void sink() {
        Counted half = Check.scans(3, 6);
        half.half(1, 0, 1);
        half.keep(0, 2);
        Check.firing(half, 3, 2, 2, 1);
        Check.due("explore", half.explore(1), 1);
        Check.expression(half, 4, 3, 0, 0, NONE, 4, 0);
        Check.expression(half, 5, 6, 1, 4, 1, 3, 0);
        Check.due("fired SINK", half.fired(2), 1);
        Counted join = Check.scans(3, 6);
        join.join(1, 0, 1);
        join.keep(1, 2);
        Check.due("TURN", join.explore(1), 1);
        Check.firing(join, 3, 2, 2, 1);
        Check.due("explore", join.explore(1), 1);
        Check.expression(join, 5, 3, 1, 0, NONE, 4, 0);
        Check.expression(join, 6, 5, 1, 4, 1, 3, 0);
        // f 4 is JOIN 1 of GROUPS 1 and 0, and COLUMN 0 is none of GROUP 1.
        Check.firing(join, 4, 0, NONE, 1);
    }

    @Sentence(in = "2. RULES", says = "3 PASS: e KEEP p of x, f KEEP q of u, q not p: KEEP q of [KEEP p of u].")
    static void pass() {
        Counted m = Check.scans(15);
        m.keep(2, 0);
        m.keep(5, 1);
        Check.firing(m, 2, 3, 1, 1);
        Check.due("explore", m.explore(1), 1);
        Check.expression(m, 3, 3, 5, 0, NONE, 3, 0);
        Check.expression(m, 4, 3, 2, 3, NONE, 2, 0);
        Check.due("fired PASS", m.fired(3), 1);
    }

    @Sentence(in = "2. RULES", says = "5 UNDER: e TALLY c of x, f KEEP p of u, the COLUMN of p is c: KEEP p of [TALLY c of u].")
    static void under() {
        Counted m = Check.scans(15);
        m.keep(2, 0);
        m.tally(1, 1);
        m.keep(4, 0);
        m.tally(1, 3);
        Check.firing(m, 2, 5, 1, 1);
        Check.due("explore", m.explore(1), 1);
        Check.expression(m, 5, 4, 1, 0, NONE, 5, 0);
        Check.expression(m, 6, 3, 2, 5, NONE, 2, 0);
        Check.due("fired UNDER", m.fired(5), 1);
        // KEEP 4 is of COLUMN 2, and TALLY 1 of it is none that RULE 5 takes.
        Check.due("no more", m.next(0), NONE);
    }

    // ---- REFUSALS

    @Sentence(in = "REFUSALS", says = "-2 OTHER: a SHELF that holds an EXPRESSION where a ROW is wanted, or the other way about, ROWS of two SORTS, "
        + "an EXPRESSION that isn't of the KIND wanted, or one under it.")
    static void other() {
        Check.refused("a ROW wanted", Check::busy, m -> m.set(2, 0, 1), -2);
        Check.refused("a ROW wanted", Check::busy, m -> m.read(2), -2);
        Check.refused("a ROW wanted", Check::busy, m -> m.spell(2), -2);
        Check.refused("an EXPRESSION wanted", Check::busy, m -> m.says(0, 0), -2);
        Check.refused("ROWS of two SORTS", Check::busy, m -> m.copy(0, 1, 0, 0, 1), -2);
        Check.refused("a SCAN taken for a JOIN", Check::busy, m -> m.says(2, 5), -2);
    }

    @Sentence(in = "REFUSALS", says = "-3 NOTHING: a SHELF that holds NOTHING.")
    static void nothing() {
        Check.refused("set", Check::busy, m -> m.set(6, 0, 1), -3);
        Check.refused("copy", Check::busy, m -> m.copy(0, 6, 0, 0, 1), -3);
        Check.refused("says", Check::busy, m -> m.says(6, 0), -3);
        Check.refused("read", Check::busy, m -> m.read(6), -3);
        Check.refused("spell", Check::busy, m -> m.spell(6), -3);
    }

    @Sentence(in = "REFUSALS", says = "-4 BELOW: a size below 0.")
    static void below() {
        Check.refused("row", Check::busy, m -> m.row(0, 0, -1), -4);
        Check.refused("copy", Check::busy, m -> m.copy(0, 3, 0, 0, -1), -4);
    }

    @Sentence(in = "REFUSALS", says = "-5 BEYOND: an element that isn't there; nothing such to be told of.")
    static void beyond() {
        Check.refused("set", Check::busy, m -> m.set(1, 3, 1), -5);
        Check.refused("copy", Check::busy, m -> m.copy(0, 3, 0, 1, 2), -5);
        Check.refused("tableOf", Check::busy, m -> m.tableOf(2, 0), -5);
        Check.refused("group", Check::busy, m -> m.group(64, 0), -5);
        Check.refused("expression", Check::busy, m -> m.expression(64, 0), -5);
        Check.refused("next", Check::busy, m -> m.next(4), -5);
        Check.refused("fired", Check::busy, m -> m.fired(7), -5);
        Check.refused("planAt", Check::busy, m -> m.planAt(120, 0), -5);
        Check.refused("planCost", Check::busy, m -> m.planCost(120), -5);
        Check.refused("plan", TermSentences::unplanned, m -> m.plan(0, NONE, 0), -5);
        Check.refused("spell", TermSentences::unplanned, m -> m.spell(0), -5);
        Check.refused("deal", TermSentences::empty, m -> m.deal(1), -5);
    }

    private static Counted empty() {
        return new Counted();
    }

    /** One without a PLAN, whose GROUP 0 has no COST at PLACE 0. */
    private static Counted unplanned() {
        Counted m = Check.scanned();
        m.row(0, 0, 9);
        m.allow(11, false);
        return m;
    }

    @Sentence(in = "REFUSALS", says = "-6 WRONG: a number that may not be, a FAULT, what can't be as things stand.")
    static void wrong() {
        Check.refused("row", Check::busy, m -> m.row(0, 4, 1), -6);
        Check.refused("distinct", Check::busy, m -> m.distinct(0, 0), -6);
        Check.refused("keep", Check::busy, m -> m.keep(8, 0), -6);
        Check.refused("explore", Check::busy, m -> m.explore(0), -6);
        Check.refused("a FAULT", TermSentences::faulty, m -> m.read(0), -6);
        Check.refused("a COLUMN that one has not", Check::busy, m -> m.tally(0, 1), -6);
        Check.refused("other COLUMNS", Check::busy, m -> m.same(0, 1), -6);
        Check.refused("no IMAGE", Check::scanned, m -> m.restore(), -6);
    }

    /** One that has read a TEXT with a FAULT ahead, so that the next leaves the same. */
    private static Counted faulty() {
        Counted m = Check.scanned();
        m.text(0, 2, "scan 0)");
        m.read(0);
        return m;
    }

    @Sentence(in = "REFUSALS", says = "-7 ROOM: more than may be.")
    static void room() {
        Check.refused("row", Check::busy, m -> m.row(0, 0, 161), -7);
        Check.refused("keep", () -> Check.chain(64), m -> m.keep(7, 0), -7);
        Check.refused("tally", () -> Check.chain(64), m -> m.tally(0, 0), -7);
        Check.refused("join", () -> Check.chain(64), m -> m.join(0, 0, 0), -7);
        Check.refused("half", () -> Check.chain(64), m -> m.half(0, 0, 0), -7);
        Check.refused("spell", TermSentences::planned, m -> m.spell(0), -7);
        Counted m = Check.scans(1, 2, 3, 4, 5, 6, 7, 8);
        Check.due("table", m.table(100, 9, NONE, 4), -7);
        Check.due("TABLES", m.status(0), 8);
    }

    private static Counted planned() {
        Counted m = Check.scanned();
        m.plan(0, NONE, NONE);
        m.row(0, 0, 5);
        return m;
    }
}
