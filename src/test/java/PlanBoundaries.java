/** The boundaries of PLANS and TREES: promises 33 to 35 and 37. */
final class PlanBoundaries {
    private static final int NONE = PlanMemo.NONE;
    private static final int BILLION = 1_000_000_000;

    private PlanBoundaries() {
    }

    /** GROUP 0 is SCAN 0 (1000 ROWS, ORDER 0, all in one), 1 SCAN 1 (50, parted by 1), 2 their JOIN by 1, 3 a HALF. */
    private static Counted joined() {
        Counted m = new Counted();
        m.table(1000, 3, 0, 4);
        m.table(50, 6, NONE, 1);
        m.scan(0);
        m.scan(1);
        m.join(1, 0, 1);
        m.half(1, 1, 0);
        return m;
    }

    /** THE PLAN of GROUP 2, sorted by 2, all in one: SORT, HASH, READ, SHIP, READ. */
    private static Counted planned() {
        Counted m = joined();
        m.plan(2, 2, 4);
        return m;
    }

    /** One GROUP whose PLAN is of so many NODES: 63, 31, .. by JOINS of one with itself, then SIEVES. */
    private static Counted ofNodes(int nodes) {
        Counted m = new Counted();
        m.table(1, 1, 0, 4);
        int g = m.scan(0);
        int there = 1;
        int one = g;
        while (there * 2 + 1 <= nodes) {
            g = m.join(0, g, g);
            there = there * 2 + 1;
        }
        // A JOIN with the SCAN adds two NODES, a SIEVE one.
        while (there < nodes) {
            if (nodes - there >= 2) {
                g = m.join(0, g, one);
                there += 2;
            } else {
                g = m.keep(0, g);
                there++;
            }
        }
        return m;
    }

    private static void node(Counted m, int i, long cost, int... facts) {
        for (int what = 0; what < facts.length; what++) {
            Check.due("planAt(" + i + ", " + what + ")", m.planAt(i, what), facts[what]);
        }
        Check.due("planCost(" + i + ")", m.planCost(i), cost);
    }

    private static void asPlanned(Counted m) {
        Check.due("NODES", m.status(6), 5);
        node(m, 0, 7800, 10, 2, 2, 2, 4, NONE, 5, 0);
        node(m, 1, 2800, 4, 1, 2, NONE, 4, 4, 4, 0);
        node(m, 2, 1000, 1, 0, 0, NONE, 4, NONE, 1, 0);
        node(m, 3, 200, 11, 4, 1, NONE, 4, NONE, 2, 0);
        node(m, 4, 50, 1, 1, 1, NONE, NONE, NONE, 1, 0);
    }

    // ---- 3. DEMANDS

    @Sentence(in = "3. DEMANDS", says = "THE PLAN (none at first)")
    static void none_at_first() {
        Counted m = joined();
        Check.due("NODES", m.status(6), 0);
        Check.due("planAt", m.planAt(0, 0), -5);
        Check.due("planCost", m.planCost(0), -5);
        m.row(0, 0, 160);
        Check.due("spell", m.spell(0), -5);
        m.cost(2, NONE, NONE);
        m.within(2, NONE, NONE);
        m.worth(2, NONE, NONE, 4);
        Check.due("NODES behind COSTS", m.status(6), 0);
    }

    @Sentence(in = "3. DEMANDS", says = "NODES from 0 on: THE WAY of the DEMAND, behind it those of its first input, then of its second;")
    static void nodes_in_their_order() {
        asPlanned(planned());
        Counted m = ofNodes(63);
        int g = m.status(9) - 1;
        Check.due("plan", m.plan(g, NONE, NONE), 63);
        int[][] sizes = {{0, 63}, {1, 31}, {2, 15}, {3, 7}, {4, 3}, {5, 1}, {6, 1}, {7, 3}, {32, 31}, {33, 15}, {48, 15}, {60, 3},
            {61, 1}, {62, 1}};
        for (int[] s : sizes) {
            Check.due("planAt(" + s[0] + ", 6)", m.planAt(s[0], 6), s[1]);
        }
        Counted two = joined();
        Check.due("plan", two.plan(3, NONE, 4), 4);
        Check.due("the first input", two.planAt(1, 2), 1);
        Check.due("is shipped", two.planAt(1, 0), 11);
        Check.due("the second input", two.planAt(3, 2), 0);
    }

    @Sentence(in = "3. DEMANDS", says = "120 at most.")
    static void a_hundred_and_twenty_nodes() {
        for (int nodes = 1; nodes <= 120; nodes += nodes < 118 ? 9 : 1) {
            Counted m = ofNodes(nodes);
            Check.due("plan of " + nodes, m.plan(m.status(9) - 1, NONE, NONE), nodes);
            Check.due("NODES", m.status(6), nodes);
            Check.due("the first", m.planAt(0, 6), nodes);
            Check.due("the last", m.planAt(nodes - 1, 0), 1);
            Check.due("its NODES", m.planAt(nodes - 1, 6), 1);
            Check.due("behind the last", m.planAt(nodes, 0), -5);
            Check.due("COST of the last", m.planCost(nodes - 1), 1);
            Check.due("COST behind the last", m.planCost(nodes), -5);
        }
        for (int nodes = 119; nodes <= 123; nodes++) {
            Counted m = ofNodes(nodes);
            Check.due("plan of " + nodes, m.plan(m.status(9) - 1, NONE, NONE), nodes <= 120 ? nodes : -7);
        }
    }

    /** A JOIN of 63 NODES and a tower of SIEVES: the last NODES have one input each. */
    private static Counted towered(int nodes) {
        Counted m = new Counted();
        m.table(1, 1, 0, 4);
        int g = m.scan(0);
        for (int there = 1; there < 63; there = there * 2 + 1) {
            g = m.join(0, g, g);
        }
        int tower = 0;
        for (int there = 1; there < nodes - 64; there++) {
            tower = m.keep(there % 2, tower);
        }
        m.join(0, g, tower);
        return m;
    }

    /** SIEVES above JOINS whose second inputs go on: NODES wait for none but the last. */
    private static Counted toTheRight(int nodes) {
        Counted m = new Counted();
        m.table(1, 1, 0, 4);
        int one = m.scan(0);
        int g = one;
        int there = 1;
        for (; there + 2 <= nodes; there += 2) {
            g = m.join(0, one, g);
        }
        for (; there < nodes; there++) {
            g = m.keep(0, g);
        }
        return m;
    }

    @Sentence(in = "3. DEMANDS", says = "120 at most. What it tells")
    static void a_hundred_and_twenty_nodes_of_any_shape() {
        for (int nodes = 116; nodes <= 124; nodes++) {
            // The tower of 123 is one of 65 EXPRESSIONS.
            for (int shape = nodes > 122 ? 1 : 0; shape < 2; shape++) {
                Counted m = shape == 0 ? towered(nodes) : toTheRight(nodes);
                String of = "plan of " + nodes + ", shape " + shape;
                Check.due(of, m.plan(m.status(9) - 1, NONE, NONE), nodes <= 120 ? nodes : -7);
                Check.due(of + ", NODES", m.status(6), nodes <= 120 ? nodes : 0);
                Check.due(of + ", the first", m.planAt(0, 6), nodes <= 120 ? nodes : -5);
                Check.due(of + ", the last", m.planAt(nodes - 1, 0), nodes <= 120 ? 1 : -5);
                Check.due(of + ", ahead of it", m.planAt(nodes - 2, 0), nodes > 120 ? -5 : shape == 0 ? 2 : 1);
            }
        }
    }

    @Sentence(in = "3. DEMANDS", says = "What it tells stays as it was when it was made.")
    static void what_it_tells_stays() {
        Check.Call[] changes = {m -> m.same(0, m.keep(0, 0)), m -> m.explore(200), m -> m.distinct(1, 7), m -> m.allow(4, false),
            m -> m.allow(1, false), m -> m.image() + m.keep(0, 0) + m.restore(), m -> m.table(1, 1, 0, 0), m -> m.cost(0, 1, 1),
            m -> m.worth(2, 2, 4, 4), m -> m.trees(2, 3), m -> m.price(6, 1, 1, 1), m -> m.plan(0, 3, NONE), m -> m.plan(9, 0, 0),
            m -> m.plan(0, 4, 0), m -> m.deal(20), m -> m.row(0, 0, 160) + m.spell(0)};
        for (Check.Call change : changes) {
            Counted m = planned();
            change.on(m);
            asPlanned(m);
        }
        // The GROUP of a NODE is the one it was, though it went into another.
        Counted m = joined();
        m.keep(0, 2);
        m.plan(4, NONE, NONE);
        Check.due("same", m.same(4, 2), 2);
        Check.due("GROUP of the NODE", m.planAt(0, 2), 4);
        // Restored to when there was nothing, it tells what it told.
        Counted r = new Counted();
        r.image();
        r.table(1000, 3, 0, 4);
        r.scan(0);
        r.plan(0, NONE, NONE);
        Check.due("restore", r.restore(), 0);
        Check.due("NODES", r.status(6), 1);
        node(r, 0, 1000, 1, 0, 0, NONE, NONE, NONE, 1, 0);
        r.row(0, 0, 6);
        Check.due("spell", r.spell(0), 6);
        Check.due("letters", r.letters(0, 6), "scan 0");
    }

    // ---- promise 33

    @Sentence(in = "Promise 33", says = "-1;")
    static void plan_of_no_group() {
        Check.beyond("plan of GROUP", PlanBoundaries::planned, 0, 3, (m, g) -> m.plan(g, NONE, NONE), -1);
        Check.inside("plan of GROUP", PlanBoundaries::planned, 0, 3, (m, g) -> m.plan(g, NONE, NONE));
        Check.refused("-1 ahead of -6", PlanBoundaries::planned, m -> m.plan(4, 4, 5), -1);
        Check.refused("ahead of any", Counted::new, m -> m.plan(0, NONE, NONE), -1);
    }

    @Sentence(in = "Promise 33", says = "-5 no COST;")
    static void plan_of_no_cost() {
        Check.refused("an ORDER that is no COLUMN", PlanBoundaries::planned, m -> m.plan(0, 2, NONE), -5);
        Check.refused("a PLACE that is no COLUMN", PlanBoundaries::planned, m -> m.plan(0, NONE, 3), -5);
        Check.refused("no READ", () -> {
            Counted m = planned();
            m.allow(1, false);
            return m;
        }, m -> m.plan(0, NONE, NONE), -5);
        Check.refused("ahead of any PLAN", PlanBoundaries::joined, m -> m.plan(0, 3, NONE), -5);
    }

    @Sentence(in = "Promise 33", says = "-6; -7 above 120 NODES.")
    static void plan_of_no_demand_or_above_120_nodes() {
        Check.edges("plan of ORDER", PlanBoundaries::withAll, NONE, 3, (m, order) -> m.plan(0, order, 4), -6);
        Check.edges("plan of PLACE", PlanBoundaries::withAll, NONE, 4, (m, place) -> m.plan(0, 1, place), -6);
        for (int nodes = 121; nodes <= 127; nodes++) {
            int n = nodes;
            Check.Make make = () -> {
                Counted m = ofNodes(n);
                m.plan(1, NONE, NONE);
                return m;
            };
            Check.refused("plan of " + n, make, m -> m.plan(m.status(9) - 1, NONE, NONE), -7);
        }
        Check.taken("plan of 120", () -> ofNodes(120), m -> m.plan(m.status(9) - 1, NONE, NONE), 120);
        // A PLAN far above: all JOINS of the last with itself, 2 to the 60th NODES.
        Counted far = new Counted();
        far.table(1, 1, 0, 4);
        int g = far.scan(0);
        for (int i = 0; i < 30; i++) {
            g = far.join(0, g, g);
        }
        Check.due("plan far above", far.plan(g, NONE, NONE), -7);
        Check.due("NODES", far.status(6), 0);
    }

    private static Counted withAll() {
        Counted m = Check.scanned();
        m.plan(0, NONE, NONE);
        return m;
    }

    @Sentence(in = "Promise 33", says = "THE PLAN is made for a DEMAND: how many NODES.")
    static void plan_made_anew() {
        Counted m = planned();
        Check.due("a shorter one", m.plan(0, NONE, NONE), 1);
        Check.due("NODES", m.status(6), 1);
        node(m, 0, 1000, 1, 0, 0, NONE, NONE, NONE, 1, 0);
        Check.due("what was behind it", m.planAt(1, 0), -5);
        Check.due("what was behind it", m.planCost(1), -5);
        Check.due("the longer one again", m.plan(2, 2, 4), 5);
        asPlanned(m);
        Check.due("one that is refused", m.plan(0, 3, 3), -5);
        asPlanned(m);
    }

    // ---- promises 34 and 35

    @Sentence(in = "Promise 34", says = "-5: no such one, another what.")
    static void plan_at_no_node() {
        Check.edges("planAt i", PlanBoundaries::planned, 0, 4, (m, i) -> m.planAt(i, 0), -5);
        Check.edges("planAt what", PlanBoundaries::planned, 0, 7, (m, what) -> m.planAt(4, what), -5);
        Check.edges("planAt i of 120", () -> {
            Counted m = ofNodes(120);
            m.plan(m.status(9) - 1, NONE, NONE);
            return m;
        }, 0, 119, (m, i) -> m.planAt(i, 6), -5);
        Check.refused("no PLAN", PlanBoundaries::joined, m -> m.planAt(0, 0), -5);
    }

    @Sentence(in = "Promise 34", says = "Of a NODE: 0 KIND of WAY, 1 t, p or c, or the ORDER of a SORT, the PLACE of a SHIP, 2 GROUP, "
        + "3 ORDER, 4 PLACE of its DEMAND")
    static void facts_of_each_kind_of_way() {
        Check.Make make = () -> {
            Counted m = new Counted();
            m.table(1, 1, NONE, 4);
            m.table(1000, 15, 0, 4);
            m.scan(1);
            m.keep(5, 0);
            m.tally(2, 1);
            m.tally(0, 1);
            m.join(0, 0, 1);
            m.half(3, 1, 0);
            return m;
        };
        int[] read = {1, 1, 0, 0, 4, NONE, 1, 0};
        int[] sieve = {2, 5, 1, 0, 4, NONE, 2, 0};
        Counted one = make.get();
        Check.only(one, 1, 2);
        Check.due("plan", one.plan(1, 0, 4), 2);
        node(one, 0, 2000, sieve);
        node(one, 1, 1000, read);
        Counted heap = make.get();
        Check.only(heap, 1, 2, 8);
        Check.due("plan", heap.plan(2, NONE, NONE), 3);
        node(heap, 0, 1000 + 100 + 2000, 8, 2, 2, NONE, NONE, 4, 3, 0);
        node(heap, 1, 2000, 2, 5, 1, NONE, 4, NONE, 2, 0);
        Counted stream = make.get();
        Check.only(stream, 1, 2, 9);
        Check.due("plan", stream.plan(3, 0, NONE), 3);
        node(stream, 0, 500 + 100 + 2000, 9, 0, 3, 0, NONE, 4, 3, 0);
        node(stream, 1, 2000, sieve);
        Counted merge = make.get();
        Check.only(merge, 1, 2, 5);
        Check.due("plan", merge.plan(4, 0, 4), 4);
        node(merge, 0, 1500 + 5000 + 5000 + 3000, 5, 0, 4, 0, 4, 4, 4, 0);
        node(merge, 1, 1000, read);
        node(merge, 2, 2000, sieve);
        node(merge, 3, 1000, read);
        Counted loop = make.get();
        Check.only(loop, 1, 2, 6);
        Check.due("plan", loop.plan(5, 0, NONE), 4);
        node(loop, 0, 1500 + 500 + 500_000 + 3000, 6, 3, 5, 0, NONE, 4, 4, 1);
        node(loop, 1, 2000, sieve);
        node(loop, 2, 1000, read);
        node(loop, 3, 1000, 1, 1, 0, NONE, 4, NONE, 1, 0);
        Counted ship = make.get();
        Check.only(ship, 1, 10, 11);
        Check.due("plan", ship.plan(0, 3, 2), 3);
        node(ship, 0, 4000 + 11_000, 10, 3, 0, 3, 2, NONE, 3, 0);
        node(ship, 1, 4000, 11, 2, 0, NONE, 2, NONE, 2, 0);
        node(ship, 2, 1000, 1, 1, 0, NONE, NONE, NONE, 1, 0);
    }

    @Sentence(in = "Promise 34", says = "5 the PLACE at which a PAIR or SUM is done (others: NONE)")
    static void place_of_a_pair_or_sum_alone() {
        Counted m = Check.scanned();
        m.keep(0, 0);
        m.tally(2, 1);
        m.join(2, 2, 0);
        m.half(2, 3, 0);
        Check.due("plan", m.plan(4, 3, 2) > 7, true);
        int nodes = m.status(6);
        for (int i = 0; i < nodes; i++) {
            int kind = m.planAt(i, 0);
            boolean placed = kind >= 4 && kind <= 9;
            int place = m.planAt(i, 5);
            Check.due("PLACE of a NODE of KIND " + kind, placed ? place == 2 || place == 4 : place == NONE, true);
        }
        Counted s = Check.scanned();
        s.tally(2, 0);
        for (int kind = 8; kind <= 9; kind++) {
            s.allow(8, kind == 8);
            s.plan(1, NONE, 2);
            Check.due("shipped behind it", s.planAt(0, 0), 11);
            Check.due("PLACE of SHIP", s.planAt(0, 1), 2);
            Check.due("others: NONE", s.planAt(0, 5), NONE);
            Check.due("SUM", s.planAt(1, 0), kind);
            Check.due("its c", s.planAt(1, 1), 2);
            Check.due("its PLACE", s.planAt(1, 5), 4);
        }
    }

    @Sentence(in = "Promise 34", says = "6 how many NODES it is with all of its inputs, 7 whether it is of a HALF (1, 0).")
    static void nodes_with_all_inputs_and_of_a_half() {
        Counted m = joined();
        m.plan(3, NONE, NONE);
        Check.due("HALF", m.planAt(0, 7), 1);
        Check.due("its KIND", m.planAt(0, 0), 4);
        for (int i = 1; i < m.status(6); i++) {
            Check.due("not of a HALF", m.planAt(i, 7), 0);
        }
        m.plan(3, 2, NONE);
        Check.due("SORT of a HALF is none", m.planAt(0, 7), 0);
        Check.due("the HALF below it", m.planAt(1, 7), 1);
        Check.due("NODES", m.planAt(0, 6), m.status(6));
        Check.due("NODES below it", m.planAt(1, 6), m.status(6) - 1);
        m.allow(4, false);
        m.plan(3, NONE, NONE);
        Check.due("MERGE of a HALF", m.planAt(0, 0) * 10 + m.planAt(0, 7), 51);
        m.allow(5, false);
        m.plan(3, NONE, NONE);
        Check.due("LOOP of a HALF", m.planAt(0, 0) * 10 + m.planAt(0, 7), 61);
    }

    @Sentence(in = "Promise 35", says = "-5.")
    static void plan_cost_of_no_node() {
        Check.edges("planCost", PlanBoundaries::planned, 0, 4, (m, i) -> m.planCost(i), -5);
        Check.refused("no PLAN", PlanBoundaries::joined, m -> m.planCost(0), -5);
    }

    // ---- promise 37, TREES

    @Sentence(in = "Promise 37", says = "-1; -6.")
    static void trees_of_no_group_or_levels() {
        Check.edges("trees of GROUP", PlanBoundaries::joined, 0, 3, (m, g) -> m.trees(g, 2), -1);
        Check.edges("trees of levels", PlanBoundaries::joined, 0, 12, (m, d) -> m.trees(2, d), -6);
        Check.refused("-1 ahead of -6", PlanBoundaries::joined, m -> m.trees(4, 13), -1);
        Check.refused("-1 ahead of -6", PlanBoundaries::joined, m -> m.trees(-1, -1), -1);
        Check.refused("ahead of any", Counted::new, m -> m.trees(0, 0), -1);
    }

    @Sentence(in = "Promise 37", says = "TREES of a GROUP of at most d levels (0 to 12).")
    static void trees_of_at_most_so_many_levels() {
        // A tower of KEEPS: GROUP g needs g + 1 levels.
        Counted m = Check.chain(14);
        for (int g = 0; g < 14; g++) {
            for (int d = 0; d <= 12; d++) {
                Check.due("trees(" + g + ", " + d + ")", m.trees(g, d), d > g ? 1 : 0);
            }
        }
    }

    @Sentence(in = "3. DEMANDS", says = "none, if d is 0; else for each of its EXPRESSIONS the TREES of x and of y of at most d - 1 levels "
        + "times each other (SCAN: 1), together;")
    static void trees_times_each_other_together() {
        Counted m = new Counted();
        for (int t = 0; t < 5; t++) {
            m.table(9, 15, NONE, 4);
            m.scan(t);
        }
        // GROUP 0 has two SCANS, GROUP 2 three.
        m.same(0, 1);
        m.same(2, 3);
        m.same(3, 4);
        int join = m.join(0, 0, 2);
        int keep = m.keep(0, 0);
        int tally = m.tally(0, 2);
        int half = m.half(0, 2, 2);
        for (int g : new int[] {0, 2, join, keep, tally, half}) {
            Check.due("none, if d is 0", m.trees(g, 0), 0);
        }
        Check.due("SCANS", m.trees(0, 1), 2);
        Check.due("SCANS", m.trees(4, 1), 3);
        Check.due("SCANS at more levels", m.trees(4, 12), 3);
        int[][] trees = {{join, 6}, {keep, 2}, {tally, 3}, {half, 9}};
        for (int[] t : trees) {
            Check.due("at one level", m.trees(t[0], 1), 0);
            Check.due("at two levels", m.trees(t[0], 2), t[1]);
            Check.due("at 12 levels", m.trees(t[0], 12), t[1]);
        }
        m.same(join, half);
        m.same(join, keep);
        Check.due("together", m.trees(half, 2), 6 + 9 + 2);
        Check.due("together at one level", m.trees(half, 1), 0);
        // What is GONE is in no GROUP: the JOIN and the HALF of what merges are of one GROUP of five.
        m.same(0, 2);
        Check.due("SCANS", m.trees(2, 1), 5);
        Check.due("together", m.trees(half, 2), 25 + 25 + 5);
    }

    @Sentence(in = "3. DEMANDS", says = "1,000,000,000 stands for all above it, all along.")
    static void a_billion_trees_at_most() {
        Counted m = new Counted();
        for (int t = 0; t < 8; t++) {
            m.table(9, 15, NONE, 4);
            m.scan(t);
        }
        // 5 SCANS, 2 SCANS, and one that is kept twice.
        m.same(0, 1);
        m.same(0, 2);
        m.same(0, 3);
        m.same(0, 4);
        m.same(5, 6);
        int ten = m.join(0, 0, 5);
        int nine = m.same(m.join(0, 5, 5), m.keep(0, 0));
        int one = m.keep(0, 7);
        int another = m.keep(1, 7);
        Check.due("ten", m.trees(ten, 2), 10);
        Check.due("nine", m.trees(nine, 2), 9);
        // 9, 99, 999, .. 999,999,999.
        int nines = nine;
        long due = 9;
        for (int p = 0; p < 8; p++) {
            nines = m.same(m.join(0, nines, ten), m.keep(p, nine));
            due = due * 10 + 9;
            Check.due("nines", m.trees(nines, 3 + p), due);
        }
        Check.due("one below a billion", m.trees(nines, 12), BILLION - 1);
        Check.due("kept", m.trees(m.keep(2, nines), 12), BILLION - 1);
        m.same(nines, one);
        Check.due("a billion", m.trees(nines, 12), BILLION);
        m.same(nines, another);
        Check.due("one above it", m.trees(nines, 12), BILLION);

        Counted times = new Counted();
        for (int t = 0; t < 8; t++) {
            times.table(9, 15, NONE, 4);
            times.scan(t);
        }
        for (int t = 1; t < 5; t++) {
            times.same(0, t);
        }
        times.same(5, 6);
        int g = times.join(0, 0, 5);
        int ones = g;
        for (int i = 0; i < 3; i++) {
            g = times.join(0, g, g);
        }
        Check.due("a hundred millions", times.trees(g, 5), 100_000_000);
        int billion = times.join(0, g, ones);
        Check.due("a billion by times", times.trees(billion, 6), BILLION);
        int more = times.join(1, g, times.same(ones, times.keep(7, 7)));
        Check.due("11 times as much", times.trees(more, 12), BILLION);
        // Not cut it would wrap at once: a billion times a billion, four times over, and so on.
        Counted far = Check.scanned();
        int last = 0;
        for (int i = 0; i < 12; i++) {
            int next = far.join(0, last, last);
            for (int c = 1; c < 4; c++) {
                next = far.same(next, far.join(c, last, last));
            }
            last = next;
        }
        // 4, 64, 16384, 4 * 2 to the 28th, ..
        long trees = 1;
        for (int level = 1; level <= 12; level++) {
            int at = level == 1 ? 0 : far.groupOf(1 + (level - 2) * 4);
            Check.due("trees at level " + level, far.trees(at, level), trees);
            Check.due("with all levels", far.trees(at, 12), trees);
            trees = Math.min(BILLION, 4 * trees * trees);
        }
        // A GROUP in itself.
        Counted self = Check.scanned();
        self.join(0, 0, 0);
        self.same(0, 1);
        long count = 0;
        for (int d = 0; d <= 12; d++) {
            Check.due("trees of itself at " + d, self.trees(0, d), count);
            count = Math.min(BILLION, 1 + count * count);
        }
    }
}
