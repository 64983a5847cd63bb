/** The boundaries of DEMANDS, WAYS, PRICES and COSTS: promises 26 to 32, 38 and 39. */
final class CostBoundaries {
    private static final int NONE = PlanMemo.NONE;
    private static final int MILLION = 1_000_000;
    private static final long MOST = 1_000_000_000_000L;
    private static final int READ = 1;
    private static final int SIEVE = 2;
    private static final int HASH = 4;
    private static final int MERGE = 5;
    private static final int LOOP = 6;
    private static final int HEAP = 8;
    private static final int STREAM = 9;
    private static final int SORT = 10;
    private static final int SHIP = 11;
    private static final int[] ALLOWABLE = {READ, SIEVE, HASH, MERGE, LOOP, HEAP, STREAM, SORT, SHIP};

    private CostBoundaries() {
    }

    private interface Cost {
        long of(int order, int place);
    }

    /** COSTS of a GROUP, or by an EXPRESSION, for all ORDERS and PLACES. */
    private static void costs(String what, Check.Make make, int g, int e, Cost want) {
        Counted m = make.get();
        for (int order = NONE; order <= 3; order++) {
            for (int place = NONE; place <= 4; place++) {
                String of = what + " for " + order + ", " + place;
                if (e != NONE) {
                    Check.due("costBy of " + of, m.costBy(e, order, place), want.of(order, place));
                } else {
                    Check.due("cost of " + of, m.cost(g, order, place), want.of(order, place));
                }
            }
        }
    }

    /**
     * GROUP 0 of 8 ROWS in ORDER c, at PLACE c and all in one; GROUP 2 its JOIN with itself by c, 3 its TALLY,
     * 4 a KEEP of it; their EXPRESSIONS have the same numbers.
     */
    private static Counted eight(int c, int... kinds) {
        Counted m = new Counted();
        m.table(8, 15, c, c);
        m.table(8, 15, c, 4);
        m.scan(0);
        m.scan(1);
        m.same(0, 1);
        m.distinct(c, 8);
        m.join(c, 0, 0);
        m.tally(c, 0);
        m.keep(2 * c + 1, 0);
        Check.only(m, kinds);
        return m;
    }

    private static boolean at(int place, int c) {
        return place == NONE || place == c || place == 4;
    }

    private static boolean in(int order, int c) {
        return order == NONE || order == c;
    }

    // ---- 3. DEMANDS: WAYS

    @Sentence(in = "3. DEMANDS", says = "A DEMAND: a GROUP, an ORDER (a COLUMN; NONE: any), a PLACE (a COLUMN, 4 all in one; NONE: any).")
    static void demands_from_none_on() {
        Check.edges("ORDER", Check::busy, NONE, 3, (m, order) -> m.cost(2, order, 4), -16);
        Check.edges("PLACE", Check::busy, NONE, 4, (m, place) -> m.cost(2, 1, place), -16);
        Check.edges("GROUP", Check::busy, 0, Check.busy().status(9) - 1, (m, g) -> m.cost(g, 1, 4), -11);
    }

    @Sentence(in = "3. DEMANDS", says = "MEETS what is demanded if that is NONE or the same.")
    static void meets_if_none_or_the_same() {
        for (int order = NONE; order <= 3; order++) {
            for (int place = 0; place <= 4; place++) {
                int has = order;
                int stands = place;
                costs("READ of ORDER " + order + ", PLACE " + place, () -> {
                    Counted m = new Counted();
                    m.table(8, 15, has, stands);
                    m.scan(0);
                    Check.only(m, READ);
                    return m;
                }, 0, NONE, (o, p) -> (o == NONE || o == has) && (p == NONE || p == stands) ? 8 : NONE);
            }
        }
    }

    @Sentence(in = "3. DEMANDS", says = "KEEP: SIEVE, its input: x, the same ORDER and PLACE.")
    static void sieve_of_the_same() {
        for (int c = 0; c < 4; c++) {
            int column = c;
            costs("SIEVE", () -> eight(column, READ, SIEVE), 4, NONE, (o, p) -> in(o, column) && at(p, column) ? 16 : NONE);
            costs("SIEVE", () -> eight(column, READ, SIEVE), 4, 4, (o, p) -> in(o, column) && at(p, column) ? 16 : NONE);
        }
    }

    @Sentence(in = "3. DEMANDS", says = "JOIN, HALF: HASH, MERGE, LOOP, each at PLACE c, then at PLACE 4, if that MEETS")
    static void pairs_at_c_then_at_4() {
        for (int c = 0; c < 4; c++) {
            for (int kind : new int[] {HASH, MERGE, LOOP}) {
                for (int place = NONE; place <= 4; place++) {
                    Counted m = eight(c, READ, kind);
                    boolean meets = at(place, c);
                    Check.due("plan of " + kind + " at " + place, m.plan(2, NONE, place), meets ? 3 : -5);
                    Check.due("PLACE", m.planAt(0, 5), !meets ? -5 : place == 4 ? 4 : c);
                    Check.due("PLACE of x", m.planAt(1, 4), !meets ? -5 : place == 4 ? 4 : c);
                    Check.due("PLACE of y", m.planAt(2, 4), !meets ? -5 : place == 4 ? 4 : c);
                }
            }
        }
        // x and y are all in one alone: PLACE 4 is the second.
        Counted m = Check.scanned();
        m.join(2, 0, 0);
        m.half(1, 0, 0);
        Check.only(m, READ, HASH);
        Check.due("plan", m.plan(1, NONE, NONE), 3);
        Check.due("PLACE", m.planAt(0, 5), 4);
        Check.due("plan of a HALF", m.plan(2, NONE, 4), 3);
        Check.due("PLACE", m.planAt(0, 5), 4);
        Check.due("at c", m.plan(2, NONE, 1), -5);
    }

    @Sentence(in = "3. DEMANDS", says = "HASH, if no ORDER is demanded: x and y, any ORDER, that PLACE;")
    static void hash_if_no_order_is_demanded() {
        for (int c = 0; c < 4; c++) {
            int column = c;
            // 16 reads, 8 + 8 works; inputs 16.
            costs("HASH", () -> eight(column, READ, HASH), 2, NONE, (o, p) -> o == NONE && at(p, column) ? 48 : NONE);
            costs("HASH", () -> eight(column, READ, HASH), 2, 2, (o, p) -> o == NONE && at(p, column) ? 48 : NONE);
        }
        Check.due("any ORDER of the inputs", unordered(HASH).cost(1, NONE, 4), 48);
    }

    /** GROUP 1: JOIN of 8 ROWS without ORDER, all in one. */
    private static Counted unordered(int... kinds) {
        Counted m = new Counted();
        m.table(8, 15, NONE, 4);
        m.scan(0);
        m.distinct(0, 8);
        m.join(0, 0, 0);
        m.tally(0, 0);
        Check.only(m, kinds);
        m.allow(READ, true);
        return m;
    }

    @Sentence(in = "3. DEMANDS", says = "MERGE, if c MEETS the ORDER: x and y, ORDER c, that PLACE;")
    static void merge_if_c_meets_the_order() {
        for (int c = 0; c < 4; c++) {
            int column = c;
            // 24 reads, 8 works; inputs 16.
            costs("MERGE", () -> eight(column, READ, MERGE), 2, NONE, (o, p) -> in(o, column) && at(p, column) ? 48 : NONE);
            costs("MERGE", () -> eight(column, READ, MERGE), 2, 2, (o, p) -> in(o, column) && at(p, column) ? 48 : NONE);
        }
        Check.due("ORDER c of the inputs", unordered(MERGE).cost(1, NONE, 4), NONE);
        // SORT: 8 + 8 * 4 each.
        Check.due("sorted inputs", unordered(MERGE, SORT).cost(1, NONE, 4), 48 + 80);
    }

    @Sentence(in = "3. DEMANDS", says = "LOOP: x, the ORDER demanded, that PLACE, and y, any ORDER, that PLACE.")
    static void loop_with_the_order_of_x() {
        for (int c = 0; c < 4; c++) {
            int column = c;
            // 16 reads, 8 + 64 works; inputs 16.
            costs("LOOP", () -> eight(column, READ, LOOP), 2, NONE, (o, p) -> in(o, column) && at(p, column) ? 104 : NONE);
        }
        // x in ORDER 3, y in none, joined by COLUMN 0: every ORDER of x will do.
        Check.Make make = () -> {
            Counted m = new Counted();
            m.table(8, 15, 3, 4);
            m.table(8, 15, NONE, 4);
            m.scan(0);
            m.scan(1);
            m.distinct(0, 8);
            m.join(0, 0, 1);
            m.join(0, 1, 0);
            Check.only(m, READ, LOOP);
            return m;
        };
        costs("LOOP, x in ORDER 3", make, 2, NONE, (o, p) -> in(o, 3) && (p == NONE || p == 4) ? 104 : NONE);
        costs("LOOP, y in ORDER 3", make, 3, NONE, (o, p) -> o == NONE && (p == NONE || p == 4) ? 104 : NONE);
    }

    @Sentence(in = "3. DEMANDS", says = "TALLY: HEAP, STREAM, each at PLACE c, then 4, if that MEETS")
    static void sums_at_c_then_at_4() {
        for (int c = 0; c < 4; c++) {
            for (int kind : new int[] {HEAP, STREAM}) {
                for (int place = NONE; place <= 4; place++) {
                    Counted m = eight(c, READ, kind);
                    boolean meets = at(place, c);
                    Check.due("plan of " + kind + " at " + place, m.plan(3, NONE, place), meets ? 2 : -5);
                    Check.due("PLACE", m.planAt(0, 5), !meets ? -5 : place == 4 ? 4 : c);
                    Check.due("PLACE of x", m.planAt(1, 4), !meets ? -5 : place == 4 ? 4 : c);
                }
            }
        }
        Counted m = unordered(HEAP);
        Check.due("plan", m.plan(2, NONE, NONE), 2);
        Check.due("PLACE", m.planAt(0, 5), 4);
    }

    @Sentence(in = "3. DEMANDS", says = "HEAP, if no ORDER is demanded: x, any ORDER, that PLACE;")
    static void heap_if_no_order_is_demanded() {
        for (int c = 0; c < 4; c++) {
            int column = c;
            // 16 reads, 8 works; input 8.
            costs("HEAP", () -> eight(column, READ, HEAP), 3, NONE, (o, p) -> o == NONE && at(p, column) ? 32 : NONE);
        }
        Check.due("any ORDER of the input", unordered(HEAP).cost(2, NONE, 4), 32);
    }

    @Sentence(in = "3. DEMANDS", says = "STREAM, if c MEETS the ORDER: x, ORDER c, that PLACE.")
    static void stream_if_c_meets_the_order() {
        for (int c = 0; c < 4; c++) {
            int column = c;
            // 8 reads, 8 works; input 8.
            costs("STREAM", () -> eight(column, READ, STREAM), 3, NONE, (o, p) -> in(o, column) && at(p, column) ? 24 : NONE);
        }
        Check.due("ORDER c of the input", unordered(STREAM).cost(2, NONE, 4), NONE);
        Check.due("sorted input", unordered(STREAM, SORT).cost(2, NONE, 4), 24 + 40);
    }

    @Sentence(in = "3. DEMANDS", says = "SORT, if an ORDER is demanded that is one of the GROUP's COLUMNS: the GROUP, any ORDER, the same PLACE.")
    static void sort_by_one_of_the_columns() {
        for (int columns = 1; columns <= 15; columns++) {
            int set = columns;
            costs("SORT of COLUMNS " + columns, () -> {
                Counted m = new Counted();
                m.table(8, set, NONE, 4);
                m.scan(0);
                Check.only(m, READ, SORT);
                return m;
            }, 0, NONE, (o, p) -> p != NONE && p != 4 ? NONE : o == NONE ? 8 : (set >> o & 1) == 1 ? 48 : NONE);
        }
    }

    @Sentence(in = "3. DEMANDS", says = "SHIP, if no ORDER, but a PLACE is demanded that is 4 or one of the GROUP's COLUMNS: the GROUP, any ORDER, any PLACE.")
    static void ship_to_one_of_the_columns() {
        for (int columns = 1; columns <= 15; columns++) {
            int set = columns;
            int has = columns % 2 == 1 ? 0 : columns % 4 == 2 ? 1 : columns % 8 == 4 ? 2 : 3;
            Check.Make shipped = () -> {
                Counted m = new Counted();
                m.table(8, set, has, has);
                m.scan(0);
                Check.only(m, READ, SHIP);
                return m;
            };
            Cost cost = (o, p) -> in(o, has) && (p == NONE || p == has) ? 8
                : o == NONE && (p == 4 || (set >> p & 1) == 1) ? 32 : NONE;
            costs("SHIP of COLUMNS " + columns, shipped, 0, NONE, cost);
            costs("SORT above SHIP of COLUMNS " + columns, () -> {
                Counted m = shipped.get();
                m.allow(SORT, true);
                return m;
            }, 0, NONE, (o, p) -> {
                long there = cost.of(o, p);
                if (there != NONE || o == NONE || (set >> o & 1) == 0) {
                    return there;
                }
                long unsorted = cost.of(NONE, p);
                return unsorted == NONE ? NONE : unsorted + 40;
            });
        }
    }

    @Sentence(in = "3. DEMANDS", says = "None of a KIND that isn't ALLOWED.")
    static void none_of_a_kind_that_is_not_allowed() {
        // Of what each GROUP and DEMAND can be by one KIND of WAY alone.
        int[][] needed = {{READ, 0, NONE, NONE}, {SIEVE, 4, NONE, NONE}, {HASH, 2, NONE, NONE}, {MERGE, 2, NONE, NONE},
            {LOOP, 2, NONE, NONE}, {HEAP, 3, NONE, NONE}, {STREAM, 3, NONE, NONE}, {SORT, 0, 3, NONE}, {SHIP, 0, NONE, 3}};
        for (int[] n : needed) {
            Counted m = eight(0, READ, n[0]);
            Check.due("cost by " + n[0], m.cost(n[1], n[2], n[3]) > 0, true);
            int demands = m.demands(n[1], n[2], n[3]);
            m.allow(n[0], false);
            Check.due("cost without " + n[0], m.cost(n[1], n[2], n[3]), NONE);
            Check.due("plan without " + n[0], m.plan(n[1], n[2], n[3]), -5);
            Check.due("demands without " + n[0], m.demands(n[1], n[2], n[3]), 1);
            Check.due("within without " + n[0], m.within(n[1], n[2], n[3]), 0);
            m.allow(n[0], true);
            Check.due("demands with it", m.demands(n[1], n[2], n[3]), demands);
            Check.due("more", demands > 1, n[0] != READ);
        }
    }

    // ---- 3. DEMANDS: PRICES

    @Sentence(in = "3. DEMANDS", says = "b those of y (0, if there is none), r those of the GROUP.")
    static void prices_of_ways() {
        // x has 40 ROWS, y 30; the JOIN 12, the HALF 12, the KEEP 20, the TALLY 25.
        Counted m = new Counted();
        m.table(40, 15, 0, 4);
        m.table(30, 15, 0, 4);
        m.scan(0);
        m.scan(1);
        m.distinct(0, 100);
        m.join(0, 0, 1);
        m.half(0, 0, 1);
        m.keep(1, 0);
        m.distinct(1, 25);
        m.tally(1, 0);
        Check.due("SIEVE: a", m.costBy(4, NONE, NONE), 40 + 40);
        for (int g = 2; g <= 3; g++) {
            Check.only(m, READ, HASH);
            Check.due("HASH: a + b, r + b", m.costBy(g, NONE, 4), 70 + (40 + 30) + (12 + 30));
            Check.only(m, READ, MERGE);
            Check.due("MERGE: a + b + r, r", m.costBy(g, NONE, 4), 70 + (40 + 30 + 12) + 12);
            Check.only(m, READ, LOOP);
            Check.due("LOOP: a + b, r + a * b", m.costBy(g, NONE, 4), 70 + (40 + 30) + (12 + 1200));
        }
        Check.only(m, READ, HEAP);
        Check.due("HEAP: a * 2, r", m.costBy(5, NONE, 4), 40 + 80 + 25);
        Check.only(m, READ, STREAM, SORT);
        Check.due("STREAM: a, r", m.costBy(5, NONE, 4), 40 + (40 + 40 * 6) + 40 + 25);
        Check.only(m, READ, HASH, SORT, SHIP);
        // SORT and SHIP: the ROWS of the GROUP, 12.
        Check.due("SORT: a + a * digits", m.cost(2, 3, 4) - m.cost(2, NONE, 4), 12 + 12 * 4);
        Check.due("SHIP: a * 3", m.cost(2, NONE, 2) - m.cost(2, NONE, 4), 36);
    }

    @Sentence(in = "3. DEMANDS", says = "super.works + a times how many binary digits a has (0: none).")
    static void binary_digits() {
        Counted m = new Counted();
        Check.due("of 0", m.price(SORT, 0, 5, 5), 0);
        long two = 1;
        for (int digits = 1; digits <= 20; digits++) {
            int least = (int) two;
            int most = (int) Math.min(MILLION, two * 2 - 1);
            Check.due("of " + least, m.price(SORT, least, 0, 0), least + (long) least * digits);
            Check.due("of " + most, m.price(SORT, most, 0, 0), most + (long) most * digits);
            two *= 2;
        }
    }

    @Sentence(in = "3. DEMANDS", says = "in the latest price() that wasn't refused")
    static void trace_of_the_latest_not_refused() {
        Counted m = new Counted();
        Check.due("none yet", m.status(8), 0);
        Check.due("none yet", m.trace(0), NONE);
        Check.due("price refused", m.price(4, -1, 0, 0), -6);
        Check.due("none yet", m.status(8), 0);
        m.price(HASH, 1, 1, 1);
        Check.due("price refused", m.price(12, 0, 0, 0), -1);
        Check.due("price refused", m.price(SHIP, 0, MILLION + 1, 0), -6);
        int[] hash = {12, 30, 10, 40, 31, 11, NONE};
        for (int i = 0; i < hash.length; i++) {
            Check.due("trace(" + i + ")", m.trace(i), hash[i]);
        }
        Check.due("status(8)", m.status(8), 6);
        m.table(8, 15, NONE, 4);
        m.scan(0);
        m.cost(0, 0, 0);
        m.plan(0, 0, 0);
        m.worth(0, 0, 0, 1);
        Check.due("COSTS leave it", m.status(8), 6);
        Check.due("COSTS leave it", m.trace(1), 30);
        m.price(READ, 0, 0, 0);
        Check.due("the latest", m.status(8), 3);
        Check.due("the latest", m.trace(2), 11);
        Check.due("no more of the one ahead", m.trace(3), NONE);
        Check.due("no more of the one ahead", m.trace(5), NONE);
    }

    // ---- 3. DEMANDS: COST

    /** GROUP 4: a TALLY by COLUMN 1 at a COST of 999,999,999,965 and DISTINCT of COLUMN 1; GROUP 3 its x, without HASH or MERGE. */
    private static Counted dear(int distinct) {
        Counted m = new Counted();
        m.table(MILLION, 15, NONE, 4);
        m.table(999_993, 15, NONE, 4);
        m.scan(0);
        m.distinct(0, MILLION);
        m.join(0, 0, 0);
        m.scan(1);
        m.join(0, 0, 2);
        m.tally(1, 3);
        m.distinct(1, distinct);
        m.allow(HASH, false);
        m.allow(MERGE, false);
        return m;
    }

    @Sentence(in = "3. DEMANDS", says = "COST of a DEMAND: the least of any PLAN's; above 1,000,000,000,000 there is none.")
    static void cost_up_to_a_million_millions() {
        // LOOP: 1999993 reads, 999993 + 999993000000 works; inputs 1999993. HEAP: 1999986 reads, r works.
        long loop = 1_999_993L + 999_993L + 999_993_000_000L + 1_999_993L;
        Check.due("its x", dear(35).cost(3, NONE, NONE), loop);
        for (int distinct = 33; distinct <= 37; distinct++) {
            long sum = loop + 1_999_986L + distinct;
            long cost = sum > MOST ? NONE : sum;
            Counted m = dear(distinct);
            Check.due("cost with " + distinct, m.cost(4, NONE, NONE), cost);
            Check.due("cost all in one with " + distinct, m.cost(4, NONE, 4), cost);
            Check.due("costBy with " + distinct, m.costBy(4, NONE, NONE), cost);
            Check.due("where with " + distinct, m.where(4, NONE), cost == NONE ? NONE : 4);
            Check.due("plan with " + distinct, m.plan(4, NONE, NONE), cost == NONE ? -5 : 4);
            Check.due("planCost with " + distinct, m.planCost(0), cost == NONE ? -5 : cost);
            Check.due("worth with " + distinct, m.worth(4, NONE, NONE, STREAM), cost == NONE ? NONE : 0);
            Check.due("worth of LOOP with " + distinct, m.worth(4, NONE, NONE, LOOP), NONE);
            Check.due("within with " + distinct, m.within(4, NONE, NONE) > 0, cost != NONE);
        }
        Check.due("just as much", dear(35).cost(4, NONE, NONE), MOST);
        Check.due("a million times a million, and more", dear(35).cost(1, NONE, NONE), NONE);
        Check.due("sorted above it", dear(1).cost(4, 1, NONE), MOST - 35 + 1 + 2);
        Check.due("shipped above it", dear(31).cost(4, NONE, 1), NONE);
        Check.due("shipped up to it", dear(8).cost(4, NONE, 1), MOST - 35 + 8 + 24);
        Check.due("shipped above it", dear(9).cost(4, NONE, 1), NONE);
    }

    private static long[] asked(Counted m) {
        return new long[] {m.cost(2, NONE, NONE), m.cost(2, 1, 3), m.costBy(2, NONE, 4), m.demands(2, NONE, NONE),
            m.within(2, NONE, NONE), m.where(2, NONE), m.worth(2, NONE, NONE, HASH), m.plan(2, 0, NONE), m.group(2, 1)};
    }

    @Sentence(in = "3. DEMANDS", says = "A PLAN of a DEMAND: a WAY of it and PLANS of its inputs, to an end; "
        + "its COST: the PRICE of the WAY and the COSTS of these, together.")
    static void costs_asked_again_behind_each_change() {
        // What is answered behind a change is what an object answers that was never asked ahead of it.
        Check.Make make = () -> {
            Counted m = new Counted();
            m.table(1000, 15, NONE, 4);
            m.table(50, 15, 1, 1);
            m.table(5, 15, 0, 0);
            m.scan(0);
            m.scan(1);
            m.join(1, 0, 1);
            m.keep(0, 2);
            m.scan(2);
            m.image();
            m.distinct(1, 60);
            return m;
        };
        Check.Call[] changes = {m -> m.distinct(1, 7), m -> m.same(2, 4), m -> m.same(0, 4), m -> m.explore(1), m -> m.explore(200),
            m -> m.allow(HASH, false), m -> m.allow(SHIP, false), m -> m.restore(), m -> m.same(2, m.half(0, 4, 1)),
            m -> m.same(0, 3), m -> m.deal(20), m -> m.read(7), m -> m.table(9, 1, 0, 0), m -> m.worth(2, NONE, NONE, 6),
            m -> m.join(1, 4, 4), m -> m.keep(0, 2)};
        for (int i = 0; i < changes.length; i++) {
            Counted one = make.get();
            Counted other = make.get();
            asked(one);
            changes[i].on(one);
            changes[i].on(other);
            long[] first = asked(one);
            long[] second = asked(other);
            for (int k = 0; k < first.length; k++) {
                Check.due("answer " + k + " behind change " + i, first[k], second[k]);
            }
            Check.due("ROWS of a GROUP that is new", one.group(one.keep(7, 0), 1), other.group(other.keep(7, 0), 1));
            Check.due("COST of it", one.cost(one.status(9) - 1, NONE, NONE), other.cost(other.status(9) - 1, NONE, NONE));
        }
        Counted m = make.get();
        Check.due("ROWS", m.group(2, 1), 1000 * 50 / 60);
        m.distinct(1, 100);
        Check.due("ROWS then", m.group(2, 1), 500);
        m.same(2, 4);
        Check.due("by READ", m.cost(2, NONE, 0), 500);
        m.restore();
        Check.due("ROWS as restored", m.group(2, 1), 500);
        Check.due("not by READ", m.cost(2, NONE, 0) > 500, true);
        m.same(0, 4);
        Check.due("by READ", m.cost(0, NONE, 0), 1000);
    }

    @Sentence(in = "Terms", says = "64 at most")
    static void costs_of_the_64th() {
        // The 64th EXPRESSION has WAYS as any other, and SORT and SHIP behind them.
        Counted keep = Check.chain(62);
        keep.keep(0, 0);
        int last = keep.keep(3, 0);
        Check.due("the 64th", last, 63);
        Check.due("cost", keep.cost(63, NONE, NONE), 2000);
        Check.due("sorted", keep.cost(63, 2, NONE), 2000 + 500 + 500 * 9);
        Check.due("shipped", keep.cost(63, NONE, 2), 2000 + 1500);
        Check.due("costBy", keep.costBy(63, NONE, 4), 2000);
        Check.due("demands", keep.demands(63, 2, 2), 3 + 3);
        Check.due("plan", keep.plan(63, 2, 2), 4);
        Check.due("SORT, SHIP", keep.planAt(0, 0) * 100 + keep.planAt(1, 0), 1011);
        Check.due("of no HALF", keep.planAt(0, 7) + keep.planAt(1, 7), 0);
        Check.due("trees", keep.trees(63, 2), 1);
        Check.due("users", keep.group(0, 4), 3);
        for (int kind = 5; kind <= 6; kind++) {
            Counted pair = Check.chain(63);
            Check.due("the 64th", kind == 5 ? pair.join(0, 0, 0) : pair.half(0, 0, 0), 63);
            Check.due("cost", pair.cost(63, NONE, NONE), kind == 5 ? 2000 + 10_000 + 1000 + 2000 : 2000 + 1000 + 1000 + 2000);
            Check.due("plan", pair.plan(63, 0, NONE) > 2, true);
        }
        Counted tally = Check.chain(63);
        tally.tally(0, 0);
        Check.due("cost", tally.cost(63, NONE, NONE), 2000 + 100 + 1000);
        Check.due("sorted", tally.cost(63, 0, NONE), 3100 + 100 + 700);
        // The 64th in the GROUP of others.
        Counted in = Check.chain(63);
        in.half(0, 0, 0);
        in.same(63, 0);
        Check.due("how many", in.group(0, 0), 2);
        Check.due("cost", in.cost(0, NONE, NONE), 1000);
        Check.due("sorted", in.cost(0, 2, NONE), 1000 + 11_000);
        Check.due("costBy the 64th", in.costBy(63, NONE, NONE), 2000 + 1000 + 1000 + 2000);
        // What was the next one's KIND ahead of restore() tells nothing of a SORT or a SHIP.
        Counted back = Check.scanned();
        back.image();
        back.half(0, 0, 0);
        back.restore();
        Check.due("plan", back.plan(0, 1, 1), 3);
        Check.due("of no HALF", back.planAt(0, 7) + back.planAt(1, 7) + back.planAt(2, 7), 0);
    }

    @Sentence(in = "3. DEMANDS", says = "THE WAY of it: the first whose PRICE and the COSTS of whose inputs are that together.")
    static void the_way_is_the_first() {
        Counted m = eight(0, ALLOWABLE);
        Check.due("HASH and MERGE cost as much", m.cost(2, NONE, NONE), 48);
        m.plan(2, NONE, NONE);
        Check.due("HASH", m.planAt(0, 0), HASH);
        Check.due("at c", m.planAt(0, 5), 0);
        m.plan(2, 0, NONE);
        Check.due("MERGE", m.planAt(0, 0), MERGE);
        Check.due("at c", m.planAt(0, 5), 0);
        m.plan(0, NONE, NONE);
        Check.due("the SCAN of least number", m.planAt(0, 1), 0);
        m.plan(0, NONE, 4);
        Check.due("the SCAN that is there", m.planAt(0, 1), 1);
        m.distinct(0, 7);
        // 9 ROWS: HASH 16 + 17, MERGE 25 + 9.
        m.plan(2, NONE, NONE);
        Check.due("HASH is cheaper", m.planAt(0, 0), HASH);
        m.distinct(0, 9);
        // 7 ROWS: HASH 16 + 15, MERGE 23 + 7.
        m.plan(2, NONE, NONE);
        Check.due("MERGE is cheaper", m.planAt(0, 0), MERGE);
        Check.due("at a COST one less", m.planCost(0), 46);
        // Of the second EXPRESSION of a GROUP, the cheaper one, c comes ahead of 4 too.
        for (int kind : new int[] {HASH, MERGE, LOOP}) {
            Counted second = new Counted();
            second.table(80, 15, 0, 0);
            second.table(8, 15, 0, 0);
            second.table(8, 15, 0, 4);
            second.scan(0);
            second.scan(1);
            second.scan(2);
            second.same(1, 2);
            second.same(second.half(0, 0, 0), second.half(0, 1, 1));
            Check.only(second, READ, kind);
            second.plan(3, NONE, NONE);
            Check.due("its NODES", second.status(6), 3);
            Check.due("the second", second.planAt(1, 2), 1);
            Check.due("at c", second.planAt(0, 5), 0);
            second.plan(3, NONE, 4);
            Check.due("at 4", second.planAt(0, 5), 4);
        }
        // EXPRESSIONS that cost as much: that of least number, though its KIND of WAY comes later.
        Counted two = unordered(HASH, HEAP);
        two.half(0, 0, 0);
        two.same(1, 3);
        two.plan(3, NONE, NONE);
        Check.due("the JOIN", two.planAt(0, 7), 0);
        two.distinct(0, 100);
        Check.due("EXPRESSION by costBy", two.costBy(3, NONE, NONE), two.costBy(1, NONE, NONE));
    }

    /** GROUP 0 of 8 ROWS, read by SCANS of these ORDERS and PLACES. */
    private static Counted readAt(int... ordersAndPlaces) {
        Counted m = new Counted();
        for (int i = 0; i < ordersAndPlaces.length; i += 2) {
            int t = m.table(8, 15, ordersAndPlaces[i], ordersAndPlaces[i + 1]);
            m.same(0, m.scan(t));
        }
        return m;
    }

    private static void theWay(Counted m, int g, int order, int place, long cost, int kind, int at) {
        Check.due("cost", m.cost(g, order, place), cost);
        m.plan(g, order, place);
        Check.due("KIND of THE WAY", m.planAt(0, 0), kind);
        Check.due("its PLACE", m.planAt(0, 5), at);
    }

    @Sentence(in = "3. DEMANDS", says = "The WAYS of a DEMAND, in this order: by each EXPRESSION of the GROUP, by numbers:")
    static void ways_that_cost_as_much_in_their_order() {
        // HASH at 4 and MERGE at c, HASH at c one more: x costs 8 at 4 and 9 at c, MERGE one less than HASH.
        Counted hash = readAt(NONE, 4);
        hash.table(4, 15, 0, 0);
        hash.same(0, hash.keep(3, hash.keep(0, hash.scan(1))));
        hash.table(8, 15, 0, 4);
        hash.table(8, 15, 0, 0);
        int y = hash.same(hash.scan(2), hash.scan(3));
        hash.distinct(0, 9);
        int join = hash.join(0, 0, y);
        Check.due("x at c", hash.cost(0, 0, 0), 9);
        theWay(hash, join, NONE, NONE, 47, HASH, 4);
        hash.allow(HASH, false);
        theWay(hash, join, NONE, NONE, 47, MERGE, 0);
        // MERGE at 4 and LOOP at c: with DISTINCT 1 the JOIN has 64 ROWS.
        Counted merge = readAt(NONE, 0, 0, 4);
        merge.distinct(0, 1);
        int pair = merge.join(0, 0, 0);
        merge.allow(HASH, false);
        theWay(merge, pair, NONE, NONE, 16 + 64 + 64 + 16, MERGE, 4);
        merge.allow(MERGE, false);
        theWay(merge, pair, NONE, NONE, 16 + 64 + 64 + 16, LOOP, 0);
        // LOOP at c and at 4.
        Counted loop = readAt(NONE, 4, NONE, 0);
        int looped = loop.join(0, 0, 0);
        Check.only(loop, READ, LOOP);
        theWay(loop, looped, NONE, NONE, 16 + 1 + 64 + 16, LOOP, 0);
        // HEAP at 4 and STREAM at c: x costs 8 at 4 and 16 at c.
        Counted heap = readAt(NONE, 4);
        heap.table(8, 15, 0, 0);
        heap.same(0, heap.keep(3, heap.scan(1)));
        int tally = heap.tally(0, 0);
        Check.due("x at c", heap.cost(0, 0, 0), 16);
        theWay(heap, tally, NONE, NONE, 24 + 8, HEAP, 4);
        heap.allow(HEAP, false);
        theWay(heap, tally, NONE, NONE, 24 + 8, STREAM, 0);
        // STREAM at c and at 4, HEAP at c and at 4.
        for (int kind : new int[] {HEAP, STREAM}) {
            Counted both = readAt(0, 4, 0, 0);
            int sum = both.tally(0, 0);
            Check.only(both, READ, kind);
            theWay(both, sum, NONE, NONE, kind == HEAP ? 32 : 24, kind, 0);
        }
    }

    @Sentence(in = "3. DEMANDS", says = "Behind all EXPRESSIONS: SORT")
    static void sort_and_ship_behind_all_expressions() {
        // MERGE with a SORT of y, and a SORT of the HASH: 8 ROWS each.
        Counted m = readAt(0, 4);
        m.table(8, 15, NONE, 4);
        m.scan(1);
        m.distinct(0, 8);
        int join = m.join(0, 0, 1);
        theWay(m, join, 0, 4, 32 + 16 + 40, MERGE, 4);
        m.allow(MERGE, false);
        theWay(m, join, 0, 4, 32 + 8 + 8 + 40, SORT, NONE);
        // HASH at c of what is shipped, and a SHIP of the HASH: 16 ROWS of 8 and 8.
        Counted s = readAt(NONE, 4);
        s.distinct(0, 4);
        int pair = s.join(0, 0, 0);
        theWay(s, pair, NONE, 0, 16 + 24 + 2 * 32, HASH, 0);
        s.allow(LOOP, false);
        s.allow(MERGE, false);
        Check.due("by SHIP as much", s.cost(pair, NONE, 4) + 48, 16 + 24 + 2 * 32);
        // An EXPRESSION of greater number, that of a SCAN, comes ahead of SORT too.
        Counted e = readAt(NONE, 4, 1, 4);
        theWay(e, 0, 1, 4, 8, READ, NONE);
        theWay(e, 0, 2, 4, 48, SORT, NONE);
    }

    @Sentence(in = "3. DEMANDS", says = "All KINDS are ALLOWED at first.")
    static void all_kinds_are_allowed_at_first() {
        for (int kind : ALLOWABLE) {
            Counted m = new Counted();
            Check.due("allow(" + kind + ") at first", m.allow(kind, false), 1);
            Check.due("then", m.allow(kind, true), 0);
            Check.due("as at first", m.status(7), 4095);
        }
    }

    @Sentence(in = "3. DEMANDS", says = "DEMANDED by one: itself and the inputs of all WAYS of what is DEMANDED.")
    static void demanded_by_one() {
        Check.due("READ alone", eight(0, READ).demands(0, NONE, NONE), 1);
        Check.due("that can't be", eight(0, READ).demands(0, 3, 3), 1);
        Check.due("SIEVE", eight(0, READ, SIEVE).demands(4, 2, 1), 2);
        Check.due("HASH: x and y are one DEMAND, at two PLACES", eight(0, READ, HASH).demands(2, NONE, NONE), 3);
        Check.due("HASH at one", eight(0, READ, HASH).demands(2, NONE, 4), 2);
        Check.due("HASH at none", eight(0, READ, HASH).demands(2, NONE, 1), 1);
        Check.due("LOOP in ORDER 2: x and y are two", eight(0, LOOP).demands(2, 2, 4), 3);
        Check.due("SORT", eight(0, READ, SORT).demands(0, 2, 3), 2);
        Check.due("SORT above SHIP", eight(0, READ, SORT, SHIP).demands(0, 2, 3), 3);
        Check.due("all", eight(0, ALLOWABLE).demands(3, NONE, NONE), 1 + 4 + 1);
        Check.due("of two ORDERS", eight(0, ALLOWABLE).demands(2, 1, NONE), 2 + 6 + 1);
    }

    // ---- promise 26

    @Sentence(in = "Promise 26", says = "-1 none of 1, 2, 4, 5, 6, 8, 9, 10, 11.")
    static void allow_of_these_kinds() {
        for (int kind = -2; kind <= 14; kind++) {
            int one = kind;
            boolean may = false;
            for (int k : ALLOWABLE) {
                may |= k == kind;
            }
            if (may) {
                Check.taken("allow(" + kind + ", false)", Check::scanned, m -> m.allow(one, false), 1);
                Check.taken("allow(" + kind + ", true)", Check::scanned, m -> m.allow(one, true), 1);
                Check.taken("allow again", Check::scanned, m -> m.allow(one, false) * 10 + m.allow(one, true), 10);
                Check.taken("allow again", Check::scanned, m -> m.allow(one, false) * 10 + m.allow(one, false), 10);
                Check.taken("status(7)", Check::scanned, m -> m.allow(one, false) * 0 + m.status(7), 4095 & ~(1 << kind));
            } else {
                Check.refused("allow(" + kind + ", false)", Check::busy, m -> m.allow(one, false), -1);
                Check.refused("allow(" + kind + ", true)", Check::busy, m -> m.allow(one, true), -1);
            }
        }
        Check.beyond("allow", Check::busy, 1, 11, (m, kind) -> m.allow(kind, false), -1);
        Check.beyond("allow", Check::busy, 0, 31, (m, kind) -> m.allow(kind, true), -1);
    }

    // ---- promises 27 to 32

    private interface Demanding {
        long answer(Counted m, int g, int order, int place);
    }

    private static void edgesOfDemand(String call, Demanding d, int nobody, int wrong) {
        // 0 to 7: some went into others; 2 is a JOIN.
        Check.edges(call + " GROUP", Check::busy, 0, Check.busy().status(9) - 1, (m, g) -> d.answer(m, g, 1, 4), nobody);
        Check.edges(call + " ORDER", Check::busy, NONE, 3, (m, order) -> d.answer(m, 2, order, 4), wrong);
        Check.edges(call + " PLACE", Check::busy, NONE, 4, (m, place) -> d.answer(m, 2, 1, place), wrong);
        int none = Check.busy().status(9);
        Check.refused(call + ": GROUP ahead of ORDER", Check::busy, m -> d.answer(m, none, 4, 4), nobody);
        Check.refused(call + ": GROUP ahead of PLACE", Check::busy, m -> d.answer(m, -1, 0, 5), nobody);
        Check.refused(call + ": ahead of any", Counted::new, m -> d.answer(m, 0, NONE, NONE), nobody);
        Check.refused(call + ": ORDER and PLACE", Check::busy, m -> d.answer(m, 0, -2, -2), wrong);
    }

    @Sentence(in = "Promise 27", says = "-11 GROUP, -16 ORDER, PLACE (counted as -1, -6).")
    static void cost_of_no_demand() {
        edgesOfDemand("cost", (m, g, order, place) -> m.cost(g, order, place), -11, -16);
    }

    @Sentence(in = "Promise 27", says = "COST of a DEMAND; NONE.")
    static void cost_of_none() {
        Check.taken("none", () -> eight(0, READ), m -> m.cost(2, NONE, NONE), NONE);
        Check.taken("none", () -> eight(0, READ), m -> m.cost(0, 3, NONE), NONE);
        Check.taken("one", () -> eight(0, READ), m -> m.cost(0, 0, NONE), 8);
        Check.taken("the least there is", () -> {
            Counted m = new Counted();
            m.table(1, 1, 0, 0);
            m.scan(0);
            return m;
        }, m -> m.cost(0, 0, 0), 1);
    }

    @Sentence(in = "Promise 28", says = "-11 EXPRESSION, also one that is GONE, -16 ORDER, PLACE (counted as -1, -6).")
    static void cost_by_no_expression() {
        Check.edges("costBy ORDER", Check::busy, NONE, 3, (m, order) -> m.costBy(2, order, 4), -16);
        Check.edges("costBy PLACE", Check::busy, NONE, 4, (m, place) -> m.costBy(2, 1, place), -16);
        int n = Check.busy().status(1);
        Check.beyond("costBy EXPRESSION", Check::busy, 0, n - 1, (m, e) -> m.costBy(e, 1, 4), -11);
        Check.refused("EXPRESSION ahead of ORDER", Check::busy, m -> m.costBy(n, 4, 4), -11);
        Check.refused("EXPRESSION ahead of PLACE", Check::busy, m -> m.costBy(-1, 1, 5), -11);
        Check.refused("ahead of any", Counted::new, m -> m.costBy(0, NONE, NONE), -11);
        Check.Make gone = () -> {
            Counted m = Check.scanned();
            m.keep(1, 0);
            m.keep(4, 0);
            m.keep(4, 1);
            m.same(0, 1);
            return m;
        };
        Check.refused("GONE", gone, m -> m.costBy(3, NONE, NONE), -11);
        Check.refused("GONE ahead of ORDER", gone, m -> m.costBy(3, 4, NONE), -11);
        Check.taken("the last that isn't", gone, m -> m.costBy(2, NONE, NONE), 2000);
        Check.taken("the first", gone, m -> m.costBy(0, NONE, NONE), 1000);
    }

    @Sentence(in = "Promise 28", says = "(above 1,000,000,000,000 there is none); NONE.")
    static void cost_by_one_up_to_a_million_millions() {
        // By one of two EXPRESSIONS of a GROUP it is above, by the other far below.
        Check.Make make = () -> {
            Counted m = dear(36);
            m.table(5, 2, NONE, 4);
            m.scan(2);
            m.same(4, 5);
            return m;
        };
        Check.taken("above", make, m -> m.costBy(4, NONE, NONE), NONE);
        Check.taken("the other", make, m -> m.costBy(5, NONE, NONE), 36);
        Check.taken("COST", make, m -> m.cost(4, NONE, NONE), 36);
        Check.taken("just as much", make, m -> m.distinct(1, 35) * 0 + m.costBy(4, NONE, NONE), MOST);
        Check.taken("no WAY", make, m -> m.costBy(4, 0, NONE), NONE);
        Check.taken("SORT and SHIP are no WAYS of an EXPRESSION", make, m -> m.costBy(5, 1, NONE), NONE);
        Check.taken("but of the GROUP", make, m -> m.cost(5, 1, NONE), 36 + 36 + 36 * 6);
    }

    @Sentence(in = "Promise 29", says = "-1; -6.")
    static void demands_of_no_demand() {
        edgesOfDemand("demands", (m, g, order, place) -> m.demands(g, order, place), -1, -6);
    }

    @Sentence(in = "Promise 30", says = "-1; -6.")
    static void within_of_no_demand() {
        edgesOfDemand("within", (m, g, order, place) -> m.within(g, order, place), -1, -6);
    }

    @Sentence(in = "Promise 30", says = "Of how many of these the COST is at most that of the first; 0, if that has none.")
    static void within_at_most_that_of_the_first() {
        for (int rows = 8; rows <= 12; rows++) {
            // GROUP 0 is a SCAN of 10 ROWS, and a KEEP of GROUP 1.
            Counted m = new Counted();
            m.table(10, 15, NONE, 4);
            m.table(rows, 15, NONE, 4);
            m.scan(0);
            m.scan(1);
            m.same(0, m.keep(0, 1));
            Check.due("demands", m.demands(0, NONE, NONE), 2);
            Check.due("within, at " + rows, m.within(0, NONE, NONE), rows <= 10 ? 2 : 1);
            m.allow(READ, false);
            Check.due("within of no COST", m.within(0, NONE, NONE), 0);
            Check.due("demands", m.demands(0, NONE, NONE), 2);
        }
        Check.due("what has no COST isn't within", eight(0, READ, HASH).within(2, NONE, NONE), 3);
        Counted m = Check.scanned();
        m.table(10, 15, NONE, 4);
        m.same(0, m.keep(0, m.scan(1)));
        m.allow(READ, true);
        // The KEEP's x at PLACE 3 has no COST without SHIP, and at none the first has one.
        m.allow(SHIP, false);
        Check.due("neither has one", m.within(0, NONE, 3), 0);
        Check.due("within", m.within(0, NONE, 4), 2);
    }

    @Sentence(in = "Promise 31", says = "-11; -16 (counted as -1, -6).")
    static void where_of_no_group() {
        Check.edges("where GROUP", Check::busy, 0, Check.busy().status(9) - 1, (m, g) -> m.where(g, 1), -11);
        Check.edges("where ORDER", Check::busy, NONE, 3, (m, order) -> m.where(2, order), -16);
        Check.refused("GROUP ahead of ORDER", Check::busy, m -> m.where(99, 4), -11);
        Check.refused("ahead of any", Counted::new, m -> m.where(0, NONE), -11);
    }

    @Sentence(in = "Promise 31", says = "of several the first; NONE: at none.")
    static void where_the_first_of_the_least() {
        for (int place = 0; place <= 4; place++) {
            Counted m = new Counted();
            m.table(8, 15, 1, place);
            m.scan(0);
            Check.due("where it is", m.where(0, NONE), place);
            Check.due("where it is, in its ORDER", m.where(0, 1), place);
            Check.due("where it is, sorted", m.where(0, 2), place);
            m.allow(SHIP, false);
            Check.due("where alone it can be", m.where(0, NONE), place);
            m.allow(SORT, false);
            Check.due("in its ORDER", m.where(0, 1), place);
            Check.due("in no such ORDER", m.where(0, 2), NONE);
            m.allow(READ, false);
            Check.due("at none", m.where(0, NONE), NONE);
            for (int other = 0; other <= 4; other++) {
                Counted two = new Counted();
                two.table(8, 15, NONE, place);
                two.table(8, 15, NONE, other);
                two.scan(0);
                two.scan(1);
                two.same(0, 1);
                Check.due("at " + place + " and " + other, two.where(0, NONE), Math.min(place, other));
            }
        }
        Counted m = new Counted();
        m.table(8, 6, NONE, 4);
        m.scan(0);
        Check.due("an ORDER that is no COLUMN", m.where(0, 0), NONE);
        Check.due("an ORDER that is one", m.where(0, 1), 4);
        Check.taken("none is no refusal", Check::scanned, x -> x.allow(READ, false) * 0 + x.where(0, NONE), NONE);
    }

    @Sentence(in = "Promise 32", says = "-11 GROUP, KIND as of allow(); -16 (counted as -1, -6).")
    static void worth_of_no_demand_or_kind() {
        for (int kind : ALLOWABLE) {
            edgesOfDemand("worth of " + kind, (m, g, order, place) -> m.worth(g, order, place, kind), -11, -16);
        }
        for (int kind : new int[] {0, 3, 7, 12, -1, 13, 32, 33, 43, Integer.MIN_VALUE, Integer.MAX_VALUE}) {
            Check.refused("worth of " + kind, Check::busy, m -> m.worth(2, 1, 4, kind), -11);
            Check.refused("KIND ahead of ORDER", Check::busy, m -> m.worth(2, 4, 4, kind), -11);
            Check.refused("KIND ahead of PLACE", Check::busy, m -> m.worth(2, 1, 5, kind), -11);
        }
    }

    @Sentence(in = "Promise 32", says = "NONE: then there is none, or there is none now.")
    static void worth_of_what_has_no_cost() {
        Check.taken("none without it", () -> eight(0, READ), m -> m.worth(0, NONE, NONE, READ), NONE);
        Check.taken("none now", () -> eight(0, READ), m -> m.worth(2, NONE, NONE, SHIP), NONE);
        Check.taken("none now", () -> eight(0), m -> m.worth(0, NONE, NONE, READ), NONE);
        Check.taken("as much", () -> eight(0, READ), m -> m.worth(0, NONE, NONE, SHIP), 0);
        Check.taken("as much by another", () -> eight(0, READ, HASH, MERGE), m -> m.worth(2, NONE, NONE, HASH), 0);
        Check.taken("more by another", () -> eight(0, READ, MERGE, LOOP), m -> m.worth(2, NONE, NONE, MERGE), 104 - 48);
        Check.taken("one more", () -> {
            Counted m = eight(0, READ, HASH, MERGE);
            m.distinct(0, 9);
            return m;
        }, m -> m.worth(2, NONE, NONE, MERGE), 1);
        // For the DEMAND itself: in ORDER 0 MERGE is 48, a SORT of the HASH 88; in any ORDER HASH is 48 too.
        Check.taken("in ORDER 0", () -> eight(0, ALLOWABLE), m -> m.worth(2, 0, NONE, MERGE), 40);
        Check.taken("in any ORDER", () -> eight(0, ALLOWABLE), m -> m.worth(2, NONE, NONE, MERGE), 0);
        Check.taken("in ORDER 0", () -> eight(0, ALLOWABLE), m -> m.worth(2, 0, NONE, SORT), 0);
        Check.taken("in ORDER 1", () -> eight(0, ALLOWABLE), m -> m.worth(2, 1, NONE, SORT), NONE);
        Check.taken("at PLACE 3", () -> eight(0, ALLOWABLE), m -> m.worth(0, NONE, 3, SHIP), NONE);
        Check.taken("at PLACE 4", () -> eight(0, ALLOWABLE), m -> m.worth(0, NONE, 4, SHIP), 0);
        Check.alike("all is ALLOWED as it was", () -> {
            Counted m = Check.busy();
            for (int kind : ALLOWABLE) {
                m.worth(2, 1, 4, kind);
            }
            return m;
        }, Check::busy);
        Check.alike("all isn't ALLOWED as it was", () -> {
            Counted m = eight(0, READ, HASH);
            m.worth(2, NONE, NONE, LOOP);
            m.worth(2, NONE, NONE, HASH);
            return m;
        }, () -> eight(0, READ, HASH));
    }

    // ---- promises 38 and 39

    @Sentence(in = "Promise 38", says = "-1 no such KIND (0 to 11); -6.")
    static void price_of_no_kind() {
        Check.edges("price of", Check::busy, 0, 11, (m, kind) -> m.price(kind, 1, 2, 3), -1);
        Check.refused("-1 ahead of -6", Check::busy, m -> m.price(12, -1, 0, 0), -1);
        Check.refused("-1 ahead of -6", Check::busy, m -> m.price(-1, 0, 0, MILLION + 1), -1);
    }

    @Sentence(in = "Promise 38", says = "(0 to 1,000,000 each)")
    static void price_with_0_to_a_million() {
        for (int kind = 0; kind <= 11; kind++) {
            int of = kind;
            Check.edges("price of " + kind + ", a", Check::busy, 0, MILLION, (m, a) -> m.price(of, a, 5, 5), -6);
            Check.edges("price of " + kind + ", b", Check::busy, 0, MILLION, (m, b) -> m.price(of, 5, b, 5), -6);
            Check.edges("price of " + kind + ", r", Check::busy, 0, MILLION, (m, r) -> m.price(of, 5, 5, r), -6);
        }
        Counted m = new Counted();
        long n = MILLION;
        long[] most = {n, n, n, 3 * n, 4 * n, 4 * n, 3 * n + n * n, 2 * n, 3 * n, 2 * n, 21 * n, 3 * n};
        for (int kind = 0; kind <= 11; kind++) {
            Check.due("of a million each", m.price(kind, MILLION, MILLION, MILLION), most[kind]);
            Check.due("of 0 each", m.price(kind, 0, 0, 0), 0);
        }
    }

    @Sentence(in = "Promise 38", says = "What a WAY of a KIND has as PRICE with a, b, r")
    static void price_of_each_kind() {
        long[] prices = {700, 700, 700, 700 + 90 + 5, 700 + 90 + 5 + 90, 700 + 90 + 5 + 5, 700 + 90 + 5 + 63_000, 705, 1405, 705,
            700 + 700 * 10, 2100};
        for (int kind = 0; kind <= 11; kind++) {
            int of = kind;
            Check.taken("price(" + kind + ")", Check::busy, m -> m.price(of, 700, 90, 5), prices[kind]);
        }
    }

    @Sentence(in = "Promise 39", says = "NONE: none such.")
    static void trace_of_none_such() {
        int[][] bodies = {{12, 10, 11}, {12, 10, 11}, {12, 10, 11}, {12, 30, 10, 31, 11}, {12, 30, 10, 40, 31, 11},
            {12, 50, 30, 10, 31, 11}, {12, 30, 10, 60, 31, 11}, {12, 10, 70, 11}, {12, 80, 10, 70, 11}, {12, 10, 70, 11},
            {12, 10, 100, 11}, {110, 12, 10, 11}};
        for (int kind = 0; kind <= 11; kind++) {
            int of = kind;
            Check.Make make = () -> {
                Counted m = Check.busy();
                m.price(of, 1, 2, 3);
                return m;
            };
            int ran = bodies[kind].length;
            for (int i = 0; i < ran; i++) {
                int at = i;
                Check.taken("trace(" + i + ")", make, m -> m.trace(at), bodies[kind][i]);
            }
            for (int i : new int[] {-1, ran, ran + 1, 19, 20, 21, Integer.MIN_VALUE, Integer.MAX_VALUE}) {
                Check.taken("trace(" + i + ")", make, m -> m.trace(i), NONE);
            }
            Check.taken("status(8)", make, m -> m.status(8), ran);
        }
    }

    @Sentence(in = "3. DEMANDS", says = "the first 20 are kept.")
    static void trace_keeps_the_first_20() {
        // No KIND's price() runs 20 bodies; what one ran is not added to what the one ahead ran.
        Counted m = new Counted();
        for (int i = 0; i < 10; i++) {
            m.price(HASH, i, i, i);
            Check.due("status(8)", m.status(8), 6);
            Check.due("the first", m.trace(0), 12);
            Check.due("the last", m.trace(5), 11);
            Check.due("behind it", m.trace(6), NONE);
            Check.due("the 20th", m.trace(19), NONE);
            Check.due("the 21st", m.trace(20), NONE);
        }
    }
}
