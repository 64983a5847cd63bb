/** Sentences of WAYS and of the promises that name no boundary: what each call tells. */
final class PromiseSentences {
    private static final int NONE = PlanMemo.NONE;
    private static final int READ = 1;
    private static final int SIEVE = 2;
    private static final int HASH = 4;
    private static final int MERGE = 5;
    private static final int LOOP = 6;
    private static final int HEAP = 8;
    private static final int SORT = 10;
    private static final int SHIP = 11;

    private PromiseSentences() {
    }

    /** The PRICE of a KIND with 7, 11 and 13, and the bodies that ran for it. */
    private static void priced(int kind, long price, int... bodies) {
        Counted m = new Counted();
        Check.due("price of " + kind, m.price(kind, 7, 11, 13), price);
        traced(m, bodies);
    }

    private static void traced(Counted m, int... bodies) {
        for (int i = 0; i < bodies.length; i++) {
            Check.due("trace(" + i + ")", m.trace(i), bodies[i]);
        }
        Check.due("trace behind the last", m.trace(bodies.length), NONE);
        Check.due("how many ran", m.status(8), bodies.length);
    }

    /**
     * SCANS of 100 and of 10 ROWS, no ORDER, all in one: GROUPS 0 and 1; GROUP 2 is JOIN 0 of them, 10 ROWS,
     * EXPRESSION 2, and by TURN EXPRESSION 3.
     */
    private static Counted joined() {
        Counted m = new Counted();
        m.table(100, 15, NONE, 4);
        m.table(10, 15, NONE, 4);
        m.scan(0);
        m.scan(1);
        m.join(0, 0, 1);
        m.explore(1);
        return m;
    }

    // ---- 3. DEMANDS: WAYS and PRICES

    @Sentence(in = "3. DEMANDS", says = "What a TABLE has, or a PLACE at which something is done, MEETS what is demanded if that is NONE or the same.")
    static void tables_and_places_meet() {
        for (int place = NONE; place <= 4; place++) {
            Counted m = new Counted();
            m.table(100, 15, 1, 2);
            m.scan(0);
            m.tally(2, 0);
            Check.only(m, READ, HEAP);
            boolean meets = place == NONE || place == 2;
            // HEAP at 2: 200 + 100; the TABLE stands at 2 too, but all in one only HEAP could be done.
            Check.due("cost at " + place, m.cost(1, NONE, place), meets ? 400 : NONE);
            Check.due("cost of the TABLE at " + place, m.cost(0, 1, place), meets ? 100 : NONE);
            Check.due("cost in another ORDER", m.cost(0, 0, place), NONE);
        }
    }

    @Sentence(in = "3. DEMANDS", says = "WAYS have KINDS: 0 WAY; 1 READ, 2 SIEVE, 3 PAIR, 7 SUM, 10 SORT, 11 SHIP, each under WAY; "
        + "4 HASH, 5 MERGE, 6 LOOP, each under PAIR; 8 HEAP, 9 STREAM, each under SUM. All KINDS")
    static void kinds_of_ways() {
        // Bodies of PAIR (30, 31) run for what is under it, that of SUM (70) for what is under that, and none for others.
        int[] pairs = {3, 4, 5, 6};
        int[] sums = {7, 8, 9};
        for (int kind = 0; kind <= 11; kind++) {
            Counted m = new Counted();
            m.price(kind, 5, 6, 7);
            boolean pair = false;
            boolean sum = false;
            for (int i = 0; i < m.status(8); i++) {
                pair |= m.trace(i) == 31;
                sum |= m.trace(i) == 70;
            }
            Check.due(kind + " is under PAIR or is it", pair, has(pairs, kind));
            Check.due(kind + " is under SUM or is it", sum, has(sums, kind));
        }
        // What each KIND is of, by the NODE that it makes.
        int[] kinds = {READ, SIEVE, HASH, MERGE, LOOP, HEAP, 9, SORT, SHIP};
        int[] groups = {0, 2, 1, 1, 1, 3, 3, 0, 0};
        for (int i = 0; i < kinds.length; i++) {
            Counted m = Check.scanned();
            m.join(1, 0, 0);
            m.keep(2, 0);
            m.tally(1, 0);
            Check.only(m, READ, SORT, kinds[i]);
            m.plan(groups[i], kinds[i] == SORT ? 0 : NONE, kinds[i] == SHIP ? 0 : NONE);
            Check.due("KIND of the WAY", m.planAt(0, 0), kinds[i]);
        }
    }

    private static boolean has(int[] all, int one) {
        for (int each : all) {
            if (each == one) {
                return true;
            }
        }
        return false;
    }

    @Sentence(in = "3. DEMANDS", says = "SCAN: READ, if ORDER and PLACE of t MEET.")
    static void read_if_both_meet() {
        Counted m = new Counted();
        m.table(70, 15, 2, 4);
        m.table(30, 15, NONE, 3);
        m.scan(0);
        m.scan(1);
        Check.only(m, READ);
        for (int order = NONE; order <= 3; order++) {
            for (int place = NONE; place <= 4; place++) {
                boolean first = (order == NONE || order == 2) && (place == NONE || place == 4);
                boolean second = order == NONE && (place == NONE || place == 3);
                Check.due("READ of 0 for " + order + ", " + place, m.cost(0, order, place), first ? 70 : NONE);
                Check.due("READ of 1 for " + order + ", " + place, m.cost(1, order, place), second ? 30 : NONE);
            }
        }
    }

    @Sentence(in = "3. DEMANDS", says = "PRICES come of BODIES, with a the ROWS of x (READ, SORT, SHIP: of the GROUP), b those of y (0, if there is none), "
        + "r those of the GROUP.")
    static void a_b_and_r() {
        Counted m = new Counted();
        m.table(1000, 15, NONE, 4);
        m.table(50, 15, NONE, 4);
        m.scan(0);
        m.scan(1);
        Check.due("same", m.same(1, 0), 0);
        Check.due("READ, of the GROUP's ROWS, not the TABLE's", m.costBy(1, NONE, NONE), 1000);
        // 1000 ROWS have ten binary digits.
        Check.due("SORT", m.cost(0, 3, NONE), 1000 + 1000 + 10_000);
        Check.due("SHIP", m.cost(0, NONE, 2), 1000 + 3000);
        int kept = m.keep(0, 0);
        Check.due("SIEVE, of the ROWS of x", m.cost(kept, NONE, NONE), 1000 + 1000);
        Check.due("SORT, of the GROUP's", m.cost(kept, 3, 4), 2000 + 100 + 700);
        int tallied = m.tally(1, kept);
        m.distinct(1, 40);
        Check.due("HEAP, a of x, r of the GROUP", m.cost(tallied, NONE, 4), 2000 + 200 + 40);
        Counted two = joined();
        Check.only(two, READ, HASH);
        Check.due("HASH of 100 and 10, 10 of both", two.costBy(2, NONE, NONE), 110 + 20 + 110);
        Check.due("HASH of 10 and 100, 10 of both", two.costBy(3, NONE, NONE), 110 + 110 + 110);
    }

    @Sentence(in = "3. DEMANDS", says = "WAY: 10 reads: a. 11 works: 0. 12 price: reads, then works, added.")
    static void bodies_of_way() {
        priced(0, 7, 12, 10, 11);
        priced(READ, 7, 12, 10, 11);
        priced(SIEVE, 7, 12, 10, 11);
    }

    @Sentence(in = "3. DEMANDS", says = "PAIR: 30 reads: super.reads + b. 31 works: super.works + r.")
    static void bodies_of_pair() {
        priced(3, 7 + 11 + 13, 12, 30, 10, 31, 11);
    }

    @Sentence(in = "3. DEMANDS", says = "HASH: 40 works: super.works + b.")
    static void body_of_hash() {
        priced(HASH, 7 + 11 + 13 + 11, 12, 30, 10, 40, 31, 11);
    }

    @Sentence(in = "3. DEMANDS", says = "MERGE: 50 reads: super.reads + r.")
    static void body_of_merge() {
        priced(MERGE, 7 + 11 + 13 + 13, 12, 50, 30, 10, 31, 11);
    }

    @Sentence(in = "3. DEMANDS", says = "LOOP: 60 works: super.works + a * b.")
    static void body_of_loop() {
        priced(LOOP, 7 + 11 + 13 + 77, 12, 30, 10, 60, 31, 11);
        Counted m = new Counted();
        Check.due("the most", m.price(LOOP, 1_000_000, 1_000_000, 1_000_000), 1_000_003_000_000L);
    }

    @Sentence(in = "3. DEMANDS", says = "SUM: 70 works: super.works + r.")
    static void body_of_sum() {
        priced(7, 7 + 13, 12, 10, 70, 11);
        priced(9, 7 + 13, 12, 10, 70, 11);
    }

    @Sentence(in = "3. DEMANDS", says = "HEAP: 80 reads: super.reads * 2.")
    static void body_of_heap() {
        priced(HEAP, 7 * 2 + 13, 12, 80, 10, 70, 11);
    }

    @Sentence(in = "3. DEMANDS", says = "SORT: 100 works: super.works + a times how many binary digits a has (0: none).")
    static void body_of_sort() {
        priced(SORT, 7 + 7 * 3, 12, 10, 100, 11);
        Counted m = new Counted();
        for (int a = 0; a <= 300; a++) {
            Check.due("SORT of " + a, m.price(SORT, a, 0, 0), a + (a == 0 ? 0L : (long) a * Integer.toBinaryString(a).length()));
        }
    }

    @Sentence(in = "3. DEMANDS", says = "SHIP: 110 price: super.price * 3.")
    static void body_of_ship() {
        priced(SHIP, 7 * 3, 110, 12, 10, 11);
    }

    @Sentence(in = "3. DEMANDS", says = "reads, works, price: the body of one's KIND, or of the next KIND above that has one; "
        + "super: from the KIND above the body's on.")
    static void bodies_by_kind() {
        // MERGE has no works, PAIR above has; HASH has no reads; STREAM has none of its own at all.
        priced(MERGE, 44, 12, 50, 30, 10, 31, 11);
        priced(HASH, 42, 12, 30, 10, 40, 31, 11);
        priced(9, 20, 12, 10, 70, 11);
        // price of WAY begins the reads and works of the KIND itself, and super never begins one's own again.
        priced(HEAP, 27, 12, 80, 10, 70, 11);
        priced(LOOP, 108, 12, 30, 10, 60, 31, 11);
    }

    @Sentence(in = "3. DEMANDS", says = "THE TRACE: the numbers of the bodies that ran in the latest price() that wasn't refused, "
        + "in the order in which they began;")
    static void the_trace() {
        Counted m = joined();
        traced(m);
        m.price(LOOP, 1, 2, 3);
        traced(m, 12, 30, 10, 60, 31, 11);
        m.price(SHIP, 1, 2, 3);
        traced(m, 110, 12, 10, 11);
        // What COSTS come of is no price().
        m.cost(2, NONE, NONE);
        m.plan(2, 0, 0);
        traced(m, 110, 12, 10, 11);
        Check.due("refused", m.price(12, 1, 2, 3), -1);
        Check.due("refused", m.price(HASH, 1, -2, 3), -6);
        traced(m, 110, 12, 10, 11);
    }

    @Sentence(in = "3. DEMANDS", says = "TREES of a GROUP of at most d levels: none, if d is 0;")
    static void trees_by_levels() {
        Counted m = new Counted();
        m.table(100, 15, NONE, 4);
        m.table(10, 15, NONE, 4);
        m.scan(0);
        m.same(m.scan(1), 0);
        int both = m.join(0, 0, 0);
        int kept = m.keep(0, both);
        int half = m.half(1, kept, 0);
        int[][] trees = {{0, 2, 2, 2, 2}, {0, 0, 4, 4, 4}, {0, 0, 0, 4, 4}, {0, 0, 0, 0, 8}};
        int[] groups = {0, both, kept, half};
        for (int i = 0; i < groups.length; i++) {
            for (int d = 0; d <= 4; d++) {
                Check.due("TREES of " + groups[i] + ", " + d + " levels", m.trees(groups[i], d), trees[i][d]);
            }
        }
        m.tally(2, half);
        m.same(both, half);
        // The GROUP is in its own KEEP now: two more TREES for each one, two levels below.
        Check.due("in itself", m.trees(both, 4), 4 + 8);
        Check.due("in itself", m.trees(both, 6), 4 + 2 * (4 + 8));
    }

    // ---- DEALS

    private static int upper(int seed) {
        return seed >>> 16;
    }

    @Sentence(in = "3. DEMANDS", says = "DEALS by draws, n times: c a DRAW below 4, x and y two DRAWS below how many GROUPS were ever made")
    static void deals_c_then_x_then_y() {
        for (int start = 1; start <= 20; start++) {
            Counted m = joined();
            m.keep(1, 0);
            m.seed(start);
            int s = start;
            for (int i = 0; i < 4; i++) {
                int all = m.status(1);
                int groups = m.status(9);
                s = s * 1103515245 + 12345;
                int c = upper(s) % 4;
                s = s * 1103515245 + 12345;
                int x = upper(s) % groups;
                s = s * 1103515245 + 12345;
                int y = upper(s) % groups;
                int became = m.deal(1);
                Check.due("SEED", m.status(5), s);
                Check.due("GROUP", m.join(c, x, y), became == 1 ? groups : m.join(c, x, y));
                Check.due("EXPRESSIONS", m.status(1), all + became);
                if (became == 1) {
                    Check.due("c", m.expression(all, 1), c);
                    Check.due("x", m.expression(all, 2), x);
                    Check.due("y", m.expression(all, 3), y);
                }
            }
        }
    }

    @Sentence(in = "3. DEMANDS", says = "A DRAW below n: SEED (1 at first) becomes SEED times 1103515245, and 12345 (an int, wrapping); "
        + "its upper 16 bits, no sign, modulo n.")
    static void draws() {
        Counted m = Check.scanned();
        Check.due("SEED", m.status(5), 1);
        Check.due("deal", m.deal(1), 1);
        // 1103527590, 2524885223, 662824084 as numbers without sign: 16838, 38526, 10113 above.
        Check.due("SEED", m.status(5), 662_824_084);
        Check.due("c", m.expression(1, 1), 16_838 % 4);
        Check.due("x", m.expression(1, 2), 0);
        Check.due("y", m.expression(1, 3), 0);
    }

    // ---- Promises 5 to 24

    @Sentence(in = "Promise 5", says = "Element i of the ROW; 0 if there is none")
    static void element() {
        Counted m = new Counted();
        for (int sort = 0; sort <= 3; sort++) {
            m.row(sort, sort, 4);
            for (int i = 0; i < 4; i++) {
                m.set(sort, i, 10 * sort + i - 5);
            }
        }
        for (int sort = 0; sort <= 3; sort++) {
            for (int i = 0; i < 4; i++) {
                Check.due("element " + i + " of SORT " + sort, m.element(sort, i), 10 * sort + i - 5);
            }
            Check.due("none", m.element(sort, 4), 0);
        }
    }

    @Sentence(in = "Promise 7", says = "What SHELF s holds: NONE NOTHING")
    static void holds() {
        Counted m = joined();
        m.show(1, 3);
        m.row(2, 1, 0);
        int[] held = {NONE, 3, 101, NONE};
        for (int s = 0; s < held.length; s++) {
            Check.due("holds(" + s + ")", m.holds(s), held[s]);
        }
        m.show(2, 0);
        m.show(1, NONE);
        m.row(0, 3, 1);
        int[] then = {103, NONE, 0, NONE};
        for (int s = 0; s < then.length; s++) {
            Check.due("holds(" + s + ")", m.holds(s), then[s]);
        }
    }

    @Sentence(in = "Promise 8", says = "What the EXPRESSION in SHELF s, taken for one of a KIND, says: EXPRESSION its GROUP, SINGLE its x "
        + "(each 99, if it is GONE); SCAN its t; KEEP, TALLY, JOIN p or c; HALF 10 and c.")
    static void says() {
        Counted m = joined();
        m.keep(7, 2);
        m.tally(3, 1);
        m.half(2, 1, 0);
        int[][] said = {{0, 0, -2, -2, -2, -2, -2}, {1, 1, -2, -2, -2, -2, -2}, {2, -2, -2, -2, -2, 0, -2}, {2, -2, -2, -2, -2, 0, -2},
            {3, -2, 2, 7, -2, -2, -2}, {4, -2, 1, -2, 3, -2, -2}, {5, -2, -2, -2, -2, 2, 12}};
        for (int e = 0; e < said.length; e++) {
            m.show(e, e);
            for (int kind = 0; kind <= 6; kind++) {
                Check.due(e + " taken for " + kind, m.says(e, kind), said[e][kind]);
            }
        }
        m.keep(7, m.keep(1, 0));
        m.same(m.keep(1, 2), 2);
        m.same(0, 2);
        // KEEP 1 of what both are is there twice: the later is GONE.
        Check.due("GONE", m.expression(9, 5), 1);
        m.show(7, 9);
        Check.due("its GROUP", m.says(7, 0), 99);
        Check.due("its x", m.says(7, 2), 99);
        Check.due("its p", m.says(7, 3), 1);
    }

    @Sentence(in = "Promise 10", says = "Of one: 0 ROWS, 1 COLUMNS, 2 ORDER, 3 PLACE.")
    static void table_of() {
        Counted m = new Counted();
        int[][] tables = {{1000, 3, 1, 4}, {7, 12, NONE, 2}, {1, 8, 3, 3}};
        for (int[] t : tables) {
            m.table(t[0], t[1], t[2], t[3]);
        }
        for (int t = 0; t < tables.length; t++) {
            for (int what = 0; what < 4; what++) {
                Check.due("tableOf(" + t + ", " + what + ")", m.tableOf(t, what), tables[t][what]);
            }
        }
    }

    @Sentence(in = "Promise 12", says = "SCAN t is TOLD: its GROUP.")
    static void scan() {
        Counted m = new Counted();
        m.table(5, 15, NONE, 4);
        m.table(6, 15, NONE, 4);
        Check.due("scan", m.scan(1), 0);
        Check.due("scan", m.scan(0), 1);
        Check.due("ALIKE", m.scan(1), 0);
        Check.due("KIND", m.expression(0, 0), 1);
        Check.due("t", m.expression(0, 1), 1);
        m.same(0, 1);
        Check.due("its GROUP", m.scan(0), 0);
    }

    @Sentence(in = "Promise 13", says = "KEEP p of x is TOLD: its GROUP.")
    static void keep() {
        Counted m = joined();
        Check.due("keep", m.keep(6, 2), 3);
        Check.due("ALIKE", m.keep(6, 2), 3);
        Check.due("another TEST", m.keep(7, 2), 4);
        Check.due("another x", m.keep(6, 3), 5);
        Check.due("KIND", m.expression(4, 0), 3);
        Check.due("p", m.expression(4, 1), 6);
        Check.due("x", m.expression(4, 2), 2);
        Check.due("COLUMNS", m.group(3, 2), 15);
    }

    @Sentence(in = "Promise 14", says = "TALLY c of x is TOLD: its GROUP.")
    static void tally() {
        Counted m = joined();
        Check.due("tally", m.tally(3, 2), 3);
        Check.due("ALIKE", m.tally(3, 2), 3);
        Check.due("another COLUMN", m.tally(2, 2), 4);
        Check.due("another x", m.tally(3, 3), 5);
        Check.due("KIND", m.expression(4, 0), 4);
        Check.due("c", m.expression(4, 1), 3);
        Check.due("x", m.expression(4, 2), 2);
        Check.due("COLUMNS", m.group(3, 2), 8);
    }

    @Sentence(in = "Promise 15", says = "JOIN c of x and y is TOLD: its GROUP.")
    static void join() {
        Counted m = joined();
        Check.due("ALIKE", m.join(0, 0, 1), 2);
        Check.due("ALIKE by TURN", m.join(0, 1, 0), 2);
        Check.due("another COLUMN", m.join(1, 1, 0), 3);
        Check.due("the other way about", m.join(1, 0, 1), 4);
        Check.due("KIND", m.expression(4, 0), 5);
        Check.due("c", m.expression(4, 1), 1);
        Check.due("x", m.expression(4, 2), 1);
        Check.due("y", m.expression(4, 3), 0);
    }

    @Sentence(in = "Promise 16", says = "HALF c of x and y is TOLD: its GROUP.")
    static void half() {
        Counted m = joined();
        Check.due("no JOIN is ALIKE", m.half(0, 0, 1), 3);
        Check.due("ALIKE", m.half(0, 0, 1), 3);
        Check.due("the other way about", m.half(0, 1, 0), 4);
        Check.due("KIND", m.expression(4, 0), 6);
        Check.due("c", m.expression(4, 1), 0);
        Check.due("x", m.expression(4, 2), 0);
        Check.due("y", m.expression(4, 3), 1);
    }

    @Sentence(in = "Promise 20", says = "The GROUP that a number means.")
    static void group_of() {
        Counted m = Check.scanned();
        for (int p = 0; p < 5; p++) {
            m.keep(p, 0);
        }
        m.same(5, 3);
        m.same(3, 2);
        int[] means = {0, 1, 2, 2, 4, 2};
        for (int g = 0; g < means.length; g++) {
            Check.due("groupOf(" + g + ")", m.groupOf(g), means[g]);
        }
    }

    @Sentence(in = "Promise 21", says = "Of a GROUP: 0 how many EXPRESSIONS, 1 ROWS, 2 COLUMNS, 3 its EXPRESSION of least number, "
        + "4 how many EXPRESSIONS have it as x or y.")
    static void group() {
        Counted m = joined();
        m.keep(1, 2);
        m.half(1, 2, 2);
        int[][] told = {{1, 100, 15, 0, 2}, {1, 10, 15, 1, 2}, {2, 10, 15, 2, 2}, {1, 5, 15, 4, 0}, {1, 1, 15, 5, 0}};
        for (int g = 0; g < told.length; g++) {
            for (int what = 0; what < 5; what++) {
                Check.due("group(" + g + ", " + what + ")", m.group(g, what), told[g][what]);
            }
        }
        Check.due("same", m.same(4, 3), 3);
        int[] then = {2, 5, 15, 4, 0};
        for (int what = 0; what < 5; what++) {
            Check.due("group(4, " + what + ")", m.group(4, what), then[what]);
        }
    }

    @Sentence(in = "Promise 22", says = "Of one: 0 KIND, 1 t, p or c, 2 x, 3 y, 4 GROUP, 5 whether it is GONE (1, 0); x, y, GROUP: NONE if there is none, "
        + "or it is GONE.")
    static void expression() {
        Counted m = joined();
        m.keep(5, 0);
        m.keep(5, 1);
        m.tally(2, 3);
        m.half(3, 4, 5);
        int[][] told = {{1, 0, NONE, NONE, 0, 0}, {1, 1, NONE, NONE, 1, 0}, {5, 0, 0, 1, 2, 0}, {5, 0, 1, 0, 2, 0},
            {3, 5, 0, NONE, 3, 0}, {3, 5, 1, NONE, 4, 0}, {4, 2, 3, NONE, 5, 0}};
        seen(m, told);
        Check.due("no HALF: COLUMN 3 is none of the TALLY", m.status(1), 7);
        m.same(1, 0);
        int[][] then = {{1, 0, NONE, NONE, 0, 0}, {1, 1, NONE, NONE, 0, 0}, {5, 0, 0, 0, 2, 0}, {5, 0, NONE, NONE, NONE, 1},
            {3, 5, 0, NONE, 3, 0}, {3, 5, NONE, NONE, NONE, 1}, {4, 2, 3, NONE, 5, 0}};
        seen(m, then);
    }

    private static void seen(Counted m, int[][] told) {
        for (int e = 0; e < told.length; e++) {
            Check.expression(m, e, told[e]);
        }
    }

    @Sentence(in = "Promise 23", says = "The NEXT FIRING is fired, n times (1 to 200)")
    static void explore() {
        for (int n = 1; n <= 5; n++) {
            Counted atOnce = chained();
            Counted oneByOne = chained();
            Check.due("explore", atOnce.explore(n), n);
            for (int i = 0; i < n; i++) {
                int rule = oneByOne.next(1);
                int fired = oneByOne.fired(rule);
                Check.due("explore", oneByOne.explore(1), 1);
                Check.due("fired what was the NEXT", oneByOne.fired(rule), fired + 1);
            }
            Check.due("as many behind the one that joined() fires", atOnce.status(4), 1 + n);
            for (int what = 0; what < 10; what++) {
                Check.due("status(" + what + ")", atOnce.status(what), oneByOne.status(what));
            }
            for (int what = 0; what < 4; what++) {
                Check.due("next(" + what + ")", atOnce.next(what), oneByOne.next(what));
            }
        }
    }

    private static Counted chained() {
        Counted m = joined();
        m.tally(1, m.keep(2, m.join(3, 2, 1)));
        return m;
    }

    @Sentence(in = "Promise 24", says = "The NEXT FIRING: 0 e, 1 RULE, 2 f, 3 whether there is room for it (1, 0); NONE: there is none.")
    static void next() {
        Counted m = chained();
        // TURN of EXPRESSION 3, which TURN has brought; then that of 4, LEAN of 4 with 2 and 3, ..
        int[][] next = {{3, 0, NONE, 1}, {4, 0, NONE, 1}, {4, 1, 2, 1}, {4, 1, 3, 1}};
        for (int[] firing : next) {
            for (int what = 0; what < 4; what++) {
                Check.due("next(" + what + ")", m.next(what), firing[what]);
            }
            m.explore(1);
        }
        Counted full = Check.scanned();
        full.join(0, 0, 0);
        Check.fill(full, 64);
        // TURN of EXPRESSION 1 is ALIKE itself: there is room for nothing new.
        Check.due("e", full.next(0), 1);
        Check.due("room", full.next(3), 1);
        Check.due("explore", full.explore(1), 1);
        Check.due("room", full.next(3), 0);
        Counted none = Check.scanned();
        for (int what = 0; what < 4; what++) {
            Check.due("none", none.next(what), NONE);
        }
    }

    // ---- Promises 26 to 44

    @Sentence(in = "Promise 26", says = "A KIND of WAY is ALLOWED, or isn't: whether it was (1, 0).")
    static void allow() {
        Counted m = joined();
        Check.due("at first", m.allow(HASH, true), 1);
        Check.due("still", m.allow(HASH, false), 1);
        Check.due("not now", m.allow(HASH, false), 0);
        Check.due("by MERGE", m.cost(2, NONE, NONE), 1090);
        Check.due("not now", m.allow(HASH, true), 0);
        Check.due("by HASH", m.cost(2, NONE, NONE), 240);
        Check.due("again", m.allow(HASH, true), 1);
    }

    @Sentence(in = "Promise 28", says = "The least PRICE and COSTS of inputs together, of the WAYS of an EXPRESSION for a DEMAND of its GROUP")
    static void cost_by() {
        Counted m = joined();
        // HASH: 110 + 20, and 110 + 110 with y the greater; READ of both, 110.
        Check.due("by EXPRESSION 2", m.costBy(2, NONE, NONE), 240);
        Check.due("by EXPRESSION 3", m.costBy(3, NONE, NONE), 330);
        Check.due("by any", m.cost(2, NONE, NONE), 240);
        // MERGE: 120 + 10, and both SORTED: 100 + 800, 10 + 50. SORT of the GROUP is no WAY of an EXPRESSION.
        Check.due("in ORDER by EXPRESSION 2", m.costBy(2, 0, NONE), 1090);
        Check.due("in ORDER by EXPRESSION 3", m.costBy(3, 0, NONE), 1090);
        Check.due("in ORDER by SORT", m.cost(2, 0, NONE), 240 + 50);
        // LOOP alone keeps another ORDER: 110 + 10 + 1000, x SORTED.
        Check.due("in another ORDER by EXPRESSION 2", m.costBy(2, 1, NONE), 1120 + 900 + 10);
        Check.due("in another ORDER by EXPRESSION 3", m.costBy(3, 1, NONE), 1120 + 60 + 100);
        Check.due("of a SCAN", m.costBy(1, NONE, 4), 10);
        Check.due("of a SCAN at a PLACE where it isn't", m.costBy(1, NONE, 1), NONE);
    }

    @Sentence(in = "Promise 29", says = "How many DEMANDS are DEMANDED by one.")
    static void demands() {
        Counted m = Check.scanned();
        m.keep(0, 0);
        Check.due("itself", m.demands(0, NONE, NONE), 1);
        Check.due("SORT", m.demands(0, 0, NONE), 2);
        Check.due("SHIP", m.demands(0, NONE, 2), 2);
        Check.due("SORT, then SHIP", m.demands(0, 0, 2), 3);
        Check.due("SIEVE", m.demands(1, NONE, NONE), 2);
        Check.due("all of these", m.demands(1, 1, 4), 6);
        m.allow(SORT, false);
        Check.due("without SORT", m.demands(1, 1, 4), 2);
        Counted two = joined();
        // For (2, NONE, NONE): HASH, MERGE, LOOP at 0 and at 4: of GROUPS 0 and 1 each no ORDER and ORDER 0
        // at both, and by SHIP no ORDER at no PLACE.
        Check.due("of a JOIN", two.demands(2, NONE, NONE), 1 + 2 * (2 + 2 + 1));
    }

    @Sentence(in = "Promise 31", says = "At which PLACE (0 to 4) demanded with an ORDER (or NONE) the COST is least,")
    static void where() {
        for (int place = 0; place <= 4; place++) {
            Counted m = new Counted();
            m.table(100, 15, 1, place);
            m.scan(0);
            for (int order = NONE; order <= 3; order++) {
                Check.due("where it is, in ORDER " + order, m.where(0, order), place);
            }
        }
        Counted m = new Counted();
        m.table(100, 3, NONE, 1);
        m.scan(0);
        m.tally(0, 0);
        // The TALLY by COLUMN 0 is at 0 or 4, both by SHIP of what it is of, or by SHIP of itself: of several the first.
        Check.due("where", m.where(1, NONE), 0);
    }

    @Sentence(in = "Promise 32", says = "By how much the COST would be more, if a KIND of WAY weren't ALLOWED;")
    static void worth() {
        Counted m = joined();
        // HASH 240; without it MERGE, 130 with 100 + 900 and 10 + 50 of both inputs.
        Check.due("HASH", m.worth(2, NONE, NONE, HASH), 1090 - 240);
        Check.due("MERGE", m.worth(2, NONE, NONE, MERGE), 0);
        Check.due("READ", m.worth(2, NONE, NONE, READ), NONE);
        Check.due("SORT behind it, or MERGE", m.worth(2, 0, NONE, SORT), NONE);
        Check.due("HASH in ORDER", m.worth(2, 0, NONE, HASH), 1090 - 290);
        m.allow(HASH, false);
        Check.due("what isn't ALLOWED", m.worth(2, NONE, NONE, HASH), 0);
        // LOOP: 1120 and 110.
        Check.due("MERGE now", m.worth(2, NONE, NONE, MERGE), 1230 - 1090);
        Check.due("SORT now", m.worth(2, NONE, NONE, SORT), 1230 - 1090);
        Check.due("all is as it was", m.cost(2, NONE, NONE), 1090);
    }

    @Sentence(in = "Promise 35", says = "COST of the DEMAND of a NODE.")
    static void plan_cost() {
        Counted m = joined();
        Check.due("plan", m.plan(2, 0, NONE), 4);
        long[] costs = {290, 240, 100, 10};
        for (int i = 0; i < costs.length; i++) {
            Check.due("planCost(" + i + ")", m.planCost(i), costs[i]);
            Check.due("COST of its DEMAND", m.cost(m.planAt(i, 2), m.planAt(i, 3), m.planAt(i, 4)), costs[i]);
        }
    }

    @Sentence(in = "Promise 39", says = "THE TRACE's i-th body. NONE: none such.")
    static void trace() {
        Counted m = new Counted();
        m.price(MERGE, 3, 2, 1);
        int[] bodies = {12, 50, 30, 10, 31, 11};
        for (int i = -3; i < 25; i++) {
            Check.due("trace(" + i + ")", m.trace(i), i >= 0 && i < bodies.length ? bodies[i] : NONE);
        }
    }

    @Sentence(in = "Promise 41", says = "SEED becomes v: what it was")
    static void seed() {
        Counted m = new Counted();
        int was = 1;
        for (int v : new int[] {77, -77, 0, 1 << 30, 5}) {
            Check.due("seed", m.seed(v), was);
            Check.due("SEED", m.status(5), v);
            was = v;
        }
    }

    @Sentence(in = "Promise 44", says = "How many: 0 TABLES, 1 EXPRESSIONS (GONE ones too), 2 GROUPS that haven't gone into others, 3 EXPRESSIONS that are GONE, "
        + "4 FIRINGS fired, 5 SEED, 6 NODES of THE PLAN,")
    static void how_many_there_are() {
        Counted m = joined();
        m.keep(5, 0);
        m.keep(5, 1);
        m.same(1, 0);
        m.plan(2, 0, NONE);
        m.price(HEAP, 1, 1, 1);
        int[] told = {2, 6, 3, 2, 1, 1, 4, 4095, 5, 5};
        for (int what = 0; what < told.length; what++) {
            Check.due("status(" + what + ")", m.status(what), told[what]);
        }
    }

    @Sentence(in = "Promise 44", says = "(all, kept or not), 9 GROUPS ever made; 11 to 17")
    static void groups_ever_made() {
        Counted m = Check.scanned();
        for (int g = 1; g <= 9; g++) {
            Check.due("keep", m.keep(g % 8, g - 1), g);
            Check.due("GROUPS ever made", m.status(9), g + 1);
        }
        m.same(4, 7);
        m.same(2, 9);
        Check.due("GROUPS ever made", m.status(9), 10);
        m.keep(7, 0);
        Check.due("GROUPS ever made", m.status(9), 11);
        m.keep(7, 0);
        Check.due("ALIKE is none", m.status(9), 11);
    }
}
