/** The boundaries of SHELVES and ROWS: promises 1 to 8. */
final class ShelfBoundaries {
    private static final int NONE = PlanMemo.NONE;

    private ShelfBoundaries() {
    }

    /** SHELF 0 a ROW of 5 bytes (10 to 14), 1 of 3 bytes, 2 of 3 ints, 3 an EXPRESSION, 4 an empty ROW; others NOTHING. */
    private static Counted shelved() {
        Counted m = Check.scanned();
        m.row(0, 0, 5);
        m.row(1, 0, 3);
        m.row(2, 2, 3);
        m.show(3, 0);
        m.row(4, 0, 0);
        for (int i = 0; i < 5; i++) {
            m.set(0, i, 10 + i);
        }
        return m;
    }

    private static void row(Counted m, int s, long... elements) {
        for (int i = 0; i < elements.length; i++) {
            Check.due("element(" + s + ", " + i + ")", m.element(s, i), elements[i]);
        }
        Check.due("element behind the last", m.element(s, elements.length), 0);
        Check.due("set behind the last", m.set(s, elements.length, 1), -5);
    }

    @Sentence(in = "What it is", says = "An object is used for at most 512 calls after it has been made; what later calls answer is free.")
    static void up_to_the_512th_call() {
        Counted refused = new Counted();
        for (int i = 0; i < 511; i++) {
            Check.due("groupOf at first", refused.groupOf(0), -1);
        }
        Check.due("status(11) as the 512th call", refused.status(11), 511);

        Counted rows = new Counted();
        for (int i = 0; i < 255; i++) {
            Check.due("row", rows.row(i % 8, i % 4, i % 161), 1);
            Check.due("set", rows.set(i % 8, 0, i), i % 161 == 0 ? -5 : 1);
        }
        Check.due("holds", rows.holds(6), 102);
        Check.due("element as the 512th call", rows.element(6, 0), 254);

        Counted priced = new Counted();
        for (int i = 0; i < 510; i++) {
            Check.due("price", priced.price(3, i, 1, 0), i + 1);
        }
        Check.due("status(8)", priced.status(8), 5);
        Check.due("trace as the 512th call", priced.trace(3), 31);

        Counted planned = Check.chain(40);
        for (int i = 0; i < 155; i++) {
            planned.plan(39, NONE, NONE);
            planned.image();
            planned.restore();
        }
        while (planned.callsLeft() > 1) {
            planned.explore(200);
        }
        Check.due("status(6) as the 512th call", planned.status(6), 40);
    }

    // ---- promise 1

    @Sentence(in = "Promise 1", says = "No TABLES, no EXPRESSIONS.")
    static void a_new_object() {
        Counted m = new Counted();
        for (int what = 0; what <= 9; what++) {
            Check.due("status(" + what + ")", m.status(what), what == 5 ? 1 : what == 7 ? 4095 : 0);
        }
        for (int number = 1; number <= 7; number++) {
            Check.due("REFUSALS -" + number, m.refusals(number), 0);
        }
        Check.due("scan", m.scan(0), -1);
        Check.due("tableOf", m.tableOf(0, 0), -5);
        Check.due("expression", m.expression(0, 0), -5);
        Check.due("group", m.group(0, 0), -5);
        Check.due("groupOf", m.groupOf(0), -1);
        Check.due("show", m.show(0, 0), -1);
        Check.due("explore", m.explore(1), 0);
        Check.due("next", m.next(0), NONE);
        Check.due("cost", m.cost(0, NONE, NONE), -11);
        Check.due("trees", m.trees(0, 0), -1);
        Check.due("planAt", m.planAt(0, 0), -5);
        Check.due("fault", m.fault(), NONE);
        Check.due("trace", m.trace(0), NONE);
        Check.due("image of none", m.image(), 0);
        Check.due("restore of none", m.restore(), 0);
    }

    @Sentence(in = "Promise 1", says = "`PlanMemo()`")
    static void each_object_is_its_own() {
        Counted one = Check.busy();
        Counted other = new Counted();
        Check.due("TABLES", other.status(0), 0);
        Check.due("EXPRESSIONS", other.status(1), 0);
        Check.due("SHELF", other.holds(0), NONE);
        Check.due("restore", other.restore(), -6);
        Check.due("distinct", other.distinct(2, 5), 100);
        Check.due("distinct of the first", one.distinct(2, 77), 77);
    }

    // ---- SHELVES

    @Sentence(in = "3. DEMANDS", says = "SHELVES 0 to 7 hold NOTHING (at first), a ROW, or an EXPRESSION.")
    static void shelves_0_to_7() {
        Counted m = Check.scanned();
        for (int s = 0; s < 8; s++) {
            Check.due("at first", m.holds(s), NONE);
        }
        for (int s = 0; s < 8; s++) {
            Check.due("row(" + s + ")", m.row(s, s % 4, s), 1);
        }
        for (int s = 0; s < 8; s++) {
            Check.due("holds(" + s + ")", m.holds(s), 100 + s % 4);
        }
        for (int s = 0; s < 8; s++) {
            Check.due("show(" + s + ")", m.show(s, 0), 1);
            Check.due("holds(" + s + ")", m.holds(s), 0);
            Check.due("the ROW is no more", m.element(s, 0), 0);
            Check.due("show of NOTHING", m.show(s, NONE), 0);
            Check.due("holds(" + s + ")", m.holds(s), NONE);
        }
    }

    @Sentence(in = "3. DEMANDS", says = "A ROW has a SORT (0 bytes, 1 shorts, 2 ints, 3 longs)")
    static void sorts_0_to_3() {
        for (int sort = 0; sort <= 3; sort++) {
            Counted m = new Counted();
            Check.due("row", m.row(0, sort, 1), 1);
            Check.due("holds", m.holds(0), 100 + sort);
        }
        Check.refused("SORT -1", Counted::new, m -> m.row(0, -1, 1), -6);
        Check.refused("SORT 4", Counted::new, m -> m.row(0, 4, 1), -6);
    }

    @Sentence(in = "3. DEMANDS", says = "and 0 to 160 elements, 0 at first")
    static void sizes_0_to_160() {
        for (int n : new int[] {0, 1, 159, 160}) {
            Counted m = new Counted();
            Check.due("row of " + n, m.row(0, 3, n), 1);
            for (int i = 0; i < n; i++) {
                Check.due("element " + i + " of " + n, m.element(0, i), 0);
            }
            Check.due("set of the last of " + n, m.set(0, n - 1, 5), n == 0 ? -5 : 1);
            Check.due("set behind the last of " + n, m.set(0, n, 5), -5);
            Check.due("the last of " + n, m.element(0, n - 1), n == 0 ? 0 : 5);
            Check.due("behind the last of " + n, m.element(0, n), 0);
            Check.due("ahead of the first of " + n, m.element(0, -1), 0);
        }
        Check.refused("161", Counted::new, m -> m.row(0, 3, 161), -7);
    }

    @Sentence(in = "3. DEMANDS", says = "what is put in keeps its lowest bits")
    static void lowest_bits() {
        long[] put = {127, 128, 255, 256, -128, -129, 32767, 32768, 65535, 65536, -32768, -32769, 0x7FFF_FFFFL, 0x8000_0000L,
            0xFFFF_FFFFL, 0x1_0000_0000L, -0x8000_0000L, -0x8000_0001L, Long.MAX_VALUE, Long.MIN_VALUE};
        long[] bytes = {127, -128, -1, 0, -128, 127, -1, 0, -1, 0, 0, -1, -1, 0, -1, 0, 0, -1, -1, 0};
        long[] shorts = {127, 128, 255, 256, -128, -129, 32767, -32768, -1, 0, -32768, 32767, -1, 0, -1, 0, 0, -1, -1, 0};
        long[] ints = {127, 128, 255, 256, -128, -129, 32767, 32768, 65535, 65536, -32768, -32769, 0x7FFF_FFFFL, -0x8000_0000L,
            -1, 0, -0x8000_0000L, 0x7FFF_FFFFL, -1, 0};
        long[][] kept = {bytes, shorts, ints, put};
        for (int sort = 0; sort < 4; sort++) {
            Counted m = new Counted();
            m.row(0, sort, 1);
            for (int i = 0; i < put.length; i++) {
                Check.due("set", m.set(0, 0, put[i]), 1);
                Check.due("element of SORT " + sort + " with " + put[i], m.element(0, 0), kept[sort][i]);
            }
        }
    }

    // ---- promise 2

    @Sentence(in = "Promise 2", says = "-1;")
    static void row_in_no_shelf() {
        Check.edges("row in SHELF", ShelfBoundaries::shelved, 0, 7, (m, s) -> m.row(s, 0, 3), -1);
    }

    @Sentence(in = "Promise 2", says = "-4;")
    static void row_of_a_size_below_0() {
        Check.inside("row of n", ShelfBoundaries::shelved, 0, 160, (m, n) -> m.row(0, 0, n));
        Check.below("row of n", ShelfBoundaries::shelved, 0, (m, n) -> m.row(0, 0, n), -4);
        Check.refused("row of -1 over an EXPRESSION", ShelfBoundaries::shelved, m -> m.row(3, 0, -1), -4);
    }

    @Sentence(in = "Promise 2", says = "-6 SORT;")
    static void row_of_no_sort() {
        Check.edges("row of SORT", ShelfBoundaries::shelved, 0, 3, (m, sort) -> m.row(0, sort, 3), -6);
    }

    @Sentence(in = "Promise 2", says = "-7 n above 160.")
    static void row_above_160() {
        Check.inside("row of n", ShelfBoundaries::shelved, 0, 160, (m, n) -> m.row(3, 1, n));
        Check.above("row of n", ShelfBoundaries::shelved, 160, (m, n) -> m.row(0, 0, n), -7);
        Check.above("row over an EXPRESSION of n", ShelfBoundaries::shelved, 160, (m, n) -> m.row(3, 3, n), -7);
    }

    @Sentence(in = "REFUSALS", says = "the first that fits, in this order")
    static void row_the_first_refusal() {
        Check.refused("-1 ahead of -4", ShelfBoundaries::shelved, m -> m.row(8, 0, -1), -1);
        Check.refused("-1 ahead of -6", ShelfBoundaries::shelved, m -> m.row(-1, 4, 3), -1);
        Check.refused("-1 ahead of -7", ShelfBoundaries::shelved, m -> m.row(8, 0, 161), -1);
        Check.refused("-4 ahead of -6", ShelfBoundaries::shelved, m -> m.row(0, 4, -1), -4);
        Check.refused("-6 ahead of -7", ShelfBoundaries::shelved, m -> m.row(0, -1, 161), -6);
    }

    @Sentence(in = "Promise 2", says = "SHELF s holds a new ROW: 1.")
    static void a_row_is_new() {
        Counted m = shelved();
        Check.due("a ROW over a longer one", m.row(0, 0, 2), 1);
        Check.due("element that was there", m.element(0, 4), 0);
        Check.due("a ROW over a shorter one", m.row(0, 0, 5), 1);
        row(m, 0, 0, 0, 0, 0, 0);
        Check.due("a ROW over an EXPRESSION", m.row(3, 1, 2), 1);
        Check.due("holds", m.holds(3), 101);
        row(m, 3, 0, 0);
        Check.due("a ROW of none over an EXPRESSION", m.show(3, 0), 1);
        Check.due("a ROW of none over an EXPRESSION", m.row(3, 2, 0), 1);
        Check.due("holds a ROW of none", m.holds(3), 102);
        row(m, 3);
        Check.due("the other SHELVES", m.holds(2), 102);
    }

    // ---- promise 3

    @Sentence(in = "Promise 3", says = "-1;")
    static void set_in_no_shelf() {
        Check.beyond("set in SHELF", ShelfBoundaries::shelved, 0, 7, (m, s) -> m.set(s, 0, 3), -1);
        Check.refused("-1 ahead of -5", ShelfBoundaries::shelved, m -> m.set(8, -1, 3), -1);
        Check.refused("-1 ahead of -5", ShelfBoundaries::shelved, m -> m.set(-1, 999, 3), -1);
        Check.taken("set in SHELF 0", ShelfBoundaries::shelved, m -> m.set(0, 0, 3), 1);
        Check.taken("set in SHELF 7", ShelfBoundaries::shelved, m -> m.row(7, 0, 1) + m.set(7, 0, 3), 2);
    }

    @Sentence(in = "Promise 3", says = "-2;")
    static void set_in_an_expression() {
        Check.refused("set", ShelfBoundaries::shelved, m -> m.set(3, 0, 3), -2);
        Check.refused("-2 ahead of -5", ShelfBoundaries::shelved, m -> m.set(3, -1, 3), -2);
    }

    @Sentence(in = "Promise 3", says = "-3;")
    static void set_in_nothing() {
        Check.refused("set", ShelfBoundaries::shelved, m -> m.set(7, 0, 3), -3);
        Check.refused("-3 ahead of -5", ShelfBoundaries::shelved, m -> m.set(5, 999, 3), -3);
        Counted m = shelved();
        m.show(3, NONE);
        Check.due("set in what holds NOTHING again", m.set(3, 0, 1), -3);
        m.show(0, NONE);
        Check.due("set in what held a ROW", m.set(0, 0, 1), -3);
    }

    @Sentence(in = "Promise 3", says = "-5.")
    static void set_of_no_element() {
        Check.edges("set of element", ShelfBoundaries::shelved, 0, 4, (m, i) -> m.set(0, i, 99), -5);
        Check.refused("set in a ROW of none", ShelfBoundaries::shelved, m -> m.set(4, 0, 3), -5);
        Check.refused("set in a ROW of none", ShelfBoundaries::shelved, m -> m.set(4, -1, 3), -5);
    }

    @Sentence(in = "Promise 3", says = "Element i of the ROW becomes v: 1.")
    static void set_changes_that_one_alone() {
        Counted m = shelved();
        Check.due("set of the first", m.set(0, 0, 99), 1);
        Check.due("set of the last", m.set(0, 4, 98), 1);
        row(m, 0, 99, 11, 12, 13, 98);
        row(m, 1, 0, 0, 0);
    }

    // ---- promise 4

    @Sentence(in = "Promise 4", says = "-1;")
    static void copy_of_no_shelf() {
        Check.beyond("copy from SHELF", ShelfBoundaries::shelved, 0, 7, (m, p) -> m.copy(p, 1, 0, 0, 1), -1);
        Check.beyond("copy to SHELF", ShelfBoundaries::shelved, 0, 7, (m, q) -> m.copy(1, q, 0, 0, 1), -1);
        Check.refused("-1 ahead of -2", ShelfBoundaries::shelved, m -> m.copy(3, 8, 0, 0, 1), -1);
        Check.refused("-1 ahead of -2", ShelfBoundaries::shelved, m -> m.copy(-1, 3, 0, 0, 1), -1);
        Check.refused("-1 ahead of -3", ShelfBoundaries::shelved, m -> m.copy(5, 8, 0, 0, 1), -1);
        Check.refused("-1 ahead of -4", ShelfBoundaries::shelved, m -> m.copy(8, 0, 0, 0, -1), -1);
        Check.refused("-1 ahead of -5", ShelfBoundaries::shelved, m -> m.copy(0, 8, 9, 9, 1), -1);
        Check.taken("copy from 7 to 0", ShelfBoundaries::shelved, m -> m.row(7, 0, 1) + m.copy(7, 0, 0, 0, 1), 2);
        Check.taken("copy from 0 to 7", ShelfBoundaries::shelved, m -> m.row(7, 0, 1) + m.copy(0, 7, 0, 0, 1), 2);
    }

    @Sentence(in = "Promise 4", says = "-2 also of two SORTS (when both hold something);")
    static void copy_of_two_sorts() {
        Check.refused("bytes to ints", ShelfBoundaries::shelved, m -> m.copy(0, 2, 0, 0, 1), -2);
        Check.refused("ints to bytes", ShelfBoundaries::shelved, m -> m.copy(2, 0, 0, 0, 1), -2);
        Check.refused("none of them", ShelfBoundaries::shelved, m -> m.copy(2, 4, 0, 0, 0), -2);
        Check.refused("-2 ahead of -4", ShelfBoundaries::shelved, m -> m.copy(2, 0, 0, 0, -1), -2);
        Check.refused("-2 ahead of -5", ShelfBoundaries::shelved, m -> m.copy(2, 0, 9, 0, 1), -2);
        Check.refused("a ROW and NOTHING are no two SORTS", ShelfBoundaries::shelved, m -> m.copy(2, 5, 0, 0, 1), -3);
        Check.refused("NOTHING and a ROW are no two SORTS", ShelfBoundaries::shelved, m -> m.copy(5, 0, 0, 0, 1), -3);
        for (int sort = 0; sort < 4; sort++) {
            for (int other = 0; other < 4; other++) {
                Counted m = new Counted();
                m.row(0, sort, 1);
                m.row(1, other, 1);
                Check.due("copy of SORT " + sort + " to " + other, m.copy(0, 1, 0, 0, 1), sort == other ? 1 : -2);
            }
        }
    }

    @Sentence(in = "REFUSALS", says = "a SHELF that holds an EXPRESSION where a ROW is wanted, or the other way about")
    static void copy_of_an_expression() {
        Check.refused("from an EXPRESSION", ShelfBoundaries::shelved, m -> m.copy(3, 0, 0, 0, 1), -2);
        Check.refused("to an EXPRESSION", ShelfBoundaries::shelved, m -> m.copy(0, 3, 0, 0, 1), -2);
        Check.refused("from one to itself", ShelfBoundaries::shelved, m -> m.copy(3, 3, 0, 0, 0), -2);
        Check.refused("-2 ahead of -3", ShelfBoundaries::shelved, m -> m.copy(3, 5, 0, 0, 1), -2);
        Check.refused("-2 ahead of -3", ShelfBoundaries::shelved, m -> m.copy(5, 3, 0, 0, 1), -2);
        Check.refused("-2 ahead of -4", ShelfBoundaries::shelved, m -> m.copy(3, 0, 0, 0, -1), -2);
        Check.refused("-2 ahead of -4", ShelfBoundaries::shelved, m -> m.copy(0, 3, 0, 0, -1), -2);
        Check.refused("-2 ahead of -5", ShelfBoundaries::shelved, m -> m.copy(0, 3, -1, 0, 1), -2);
        Check.refused("-2 ahead of -5", ShelfBoundaries::shelved, m -> m.copy(3, 0, 0, 9, 1), -2);
        Check.refused("a ROW where an EXPRESSION is wanted", ShelfBoundaries::shelved, m -> m.says(0, 0), -2);
        Check.refused("an EXPRESSION where a ROW is wanted", ShelfBoundaries::shelved, m -> m.spell(3), -2);
        Check.refused("an EXPRESSION where a ROW is wanted", ShelfBoundaries::shelved, m -> m.read(3), -2);
    }

    @Sentence(in = "Promise 4", says = "-3 either;")
    static void copy_of_nothing() {
        Check.refused("from NOTHING", ShelfBoundaries::shelved, m -> m.copy(5, 0, 0, 0, 1), -3);
        Check.refused("to NOTHING", ShelfBoundaries::shelved, m -> m.copy(0, 5, 0, 0, 1), -3);
        Check.refused("both NOTHING", ShelfBoundaries::shelved, m -> m.copy(5, 6, 0, 0, 0), -3);
        Check.refused("-3 ahead of -4", ShelfBoundaries::shelved, m -> m.copy(0, 5, 0, 0, -1), -3);
        Check.refused("-3 ahead of -5", ShelfBoundaries::shelved, m -> m.copy(5, 0, 9, 9, 1), -3);
    }

    @Sentence(in = "Promise 4", says = "-4 n;")
    static void copy_of_a_size_below_0() {
        Check.below("copy of n", ShelfBoundaries::shelved, 0, (m, n) -> m.copy(0, 1, 0, 0, n), -4);
        Check.refused("-4 ahead of -5", ShelfBoundaries::shelved, m -> m.copy(0, 1, 99, -1, -1), -4);
        Check.taken("copy of none", ShelfBoundaries::shelved, m -> m.copy(0, 1, 0, 0, 0), 1);
    }

    @Sentence(in = "Promise 4", says = "-5 i or j below 0, or an end that isn't there.")
    static void copy_beyond_the_ends() {
        Check.refused("i below 0", ShelfBoundaries::shelved, m -> m.copy(0, 1, -1, 0, 1), -5);
        Check.refused("j below 0", ShelfBoundaries::shelved, m -> m.copy(0, 1, 0, -1, 1), -5);
        Check.refused("i below 0, of none", ShelfBoundaries::shelved, m -> m.copy(0, 1, -1, 0, 0), -5);
        Check.refused("j below 0, of none", ShelfBoundaries::shelved, m -> m.copy(0, 1, 0, -1, 0), -5);
        Check.refused("i far below 0", ShelfBoundaries::shelved, m -> m.copy(0, 1, Integer.MIN_VALUE, 0, 1), -5);
        Check.refused("j far below 0", ShelfBoundaries::shelved, m -> m.copy(0, 1, 0, Integer.MIN_VALUE, 1), -5);
        // From 5 elements to 3: the ends that are there, and those one behind.
        Check.taken("up to both ends", ShelfBoundaries::shelved, m -> m.copy(0, 1, 2, 0, 3), 1);
        Check.taken("the last to the last", ShelfBoundaries::shelved, m -> m.copy(0, 1, 4, 2, 1), 1);
        Check.refused("one behind the first's end", ShelfBoundaries::shelved, m -> m.copy(0, 1, 3, 0, 3), -5);
        Check.refused("one behind the second's end", ShelfBoundaries::shelved, m -> m.copy(0, 1, 0, 0, 4), -5);
        Check.refused("one behind the second's end", ShelfBoundaries::shelved, m -> m.copy(0, 1, 0, 1, 3), -5);
        Check.refused("behind the last", ShelfBoundaries::shelved, m -> m.copy(0, 1, 5, 0, 1), -5);
        Check.refused("to behind the last", ShelfBoundaries::shelved, m -> m.copy(0, 1, 0, 3, 1), -5);
        Check.taken("none at both ends", ShelfBoundaries::shelved, m -> m.copy(0, 1, 5, 3, 0), 1);
        Check.taken("none of none", ShelfBoundaries::shelved, m -> m.copy(4, 4, 0, 0, 0), 1);
        Check.refused("none behind the first's end", ShelfBoundaries::shelved, m -> m.copy(0, 1, 6, 0, 0), -5);
        Check.refused("none behind the second's end", ShelfBoundaries::shelved, m -> m.copy(0, 1, 0, 4, 0), -5);
        Check.refused("i and n that wrap", ShelfBoundaries::shelved, m -> m.copy(0, 1, 2, 0, Integer.MAX_VALUE), -5);
        Check.refused("j and n that wrap", ShelfBoundaries::shelved, m -> m.copy(0, 1, 0, 2, Integer.MAX_VALUE), -5);
        Check.refused("i and n that wrap", ShelfBoundaries::shelved, m -> m.copy(0, 1, Integer.MAX_VALUE, 0, 1), -5);
        Check.refused("j and n that wrap", ShelfBoundaries::shelved, m -> m.copy(0, 1, 0, Integer.MAX_VALUE, 1), -5);
    }

    @Sentence(in = "Promise 4", says = "(as they were ahead)")
    static void copy_onto_itself() {
        Counted up = shelved();
        Check.due("copy upward", up.copy(0, 0, 0, 1, 4), 1);
        row(up, 0, 10, 10, 11, 12, 13);
        Counted down = shelved();
        Check.due("copy downward", down.copy(0, 0, 1, 0, 4), 1);
        row(down, 0, 11, 12, 13, 14, 14);
        Counted all = shelved();
        Check.due("copy of all onto itself", all.copy(0, 0, 0, 0, 5), 1);
        row(all, 0, 10, 11, 12, 13, 14);
        Counted full = new Counted();
        full.row(0, 3, 160);
        full.row(1, 3, 160);
        full.set(0, 0, Long.MIN_VALUE);
        full.set(0, 159, Long.MAX_VALUE);
        Check.due("copy of 160", full.copy(0, 1, 0, 0, 160), 1);
        Check.due("the first", full.element(1, 0), Long.MIN_VALUE);
        Check.due("the last", full.element(1, 159), Long.MAX_VALUE);
        Check.due("copy of 161", full.copy(0, 1, 0, 0, 161), -5);
    }

    @Sentence(in = "Promise 4", says = "Elements i, i + 1, .. of the ROW in SHELF p, n of them, come to elements j, j + 1, .. of that in q "
        + "(as they were ahead): 1.")
    static void copy_of_so_many() {
        Counted m = shelved();
        Check.due("copy of none", m.copy(0, 1, 0, 0, 0), 1);
        row(m, 1, 0, 0, 0);
        Check.due("copy of one", m.copy(0, 1, 4, 1, 1), 1);
        Counted two = shelved();
        Check.due("copy of two", two.copy(0, 1, 3, 1, 2), 1);
        row(two, 1, 0, 13, 14);
        row(two, 0, 10, 11, 12, 13, 14);
        row(m, 1, 0, 14, 0);
    }

    // ---- promise 5

    @Sentence(in = "Promise 5", says = "0 if there is none (nothing is refused).")
    static void element_that_is_none() {
        int[][] none = {{0, -1}, {0, 5}, {0, 160}, {0, Integer.MIN_VALUE}, {0, Integer.MAX_VALUE}, {4, 0}, {3, 0}, {5, 0},
            {-1, 0}, {8, 0}, {Integer.MIN_VALUE, 0}, {Integer.MAX_VALUE, 0}};
        for (int[] at : none) {
            Check.taken("element(" + at[0] + ", " + at[1] + ")", ShelfBoundaries::shelved, m -> m.element(at[0], at[1]), 0);
        }
        Check.taken("the first", ShelfBoundaries::shelved, m -> m.element(0, 0), 10);
        Check.taken("the last", ShelfBoundaries::shelved, m -> m.element(0, 4), 14);
        Counted m = shelved();
        m.show(0, 0);
        Check.due("of what was a ROW", m.element(0, 0), 0);
        m.show(0, NONE);
        Check.due("of what was a ROW", m.element(0, 0), 0);
    }

    // ---- promise 6

    private static Counted ofThree() {
        Counted m = shelved();
        m.keep(0, 0);
        m.tally(1, 1);
        return m;
    }

    @Sentence(in = "Promise 6", says = "-1.")
    static void show_of_no_expression() {
        Check.edges("show of", ShelfBoundaries::ofThree, NONE, 2, (m, e) -> m.show(3, e), -1);
        Check.edges("show in", ShelfBoundaries::ofThree, 0, 7, (m, s) -> m.show(s, 2), -1);
        Check.edges("show of NOTHING in", ShelfBoundaries::ofThree, 0, 7, (m, s) -> m.show(s, NONE), -1);
        Check.refused("show over a ROW", ShelfBoundaries::ofThree, m -> m.show(0, 3), -1);
        Check.refused("show of the 64th ahead of it", () -> Check.chain(63), m -> m.show(0, 63), -1);
        Check.taken("show of the 64th", () -> Check.chain(64), m -> m.show(0, 63), 1);
    }

    @Sentence(in = "Promise 6", says = "SHELF s holds an EXPRESSION, or NOTHING (e NONE): 1, 0.")
    static void show_of_nothing() {
        for (int s = 0; s < 8; s++) {
            int at = s;
            Check.taken("show of the last", ShelfBoundaries::ofThree, m -> m.show(at, 2), 1);
            Check.taken("show of the first", ShelfBoundaries::ofThree, m -> m.show(at, 0), 1);
            Check.taken("show of NOTHING", ShelfBoundaries::ofThree, m -> m.show(at, NONE), 0);
            Check.taken("holds the last", ShelfBoundaries::ofThree, m -> m.show(at, 2) * 10 + m.holds(at), 12);
            Check.taken("holds NOTHING", ShelfBoundaries::ofThree, m -> m.show(at, NONE) * 10 + m.holds(at), NONE);
        }
    }

    // ---- promise 7

    @Sentence(in = "Promise 7", says = "NONE NOTHING, or no such SHELF")
    static void holds_of_no_shelf() {
        for (int s : new int[] {-1, 8, -2, 9, 256, Integer.MIN_VALUE, Integer.MAX_VALUE, 5, 7}) {
            Check.taken("holds(" + s + ")", ShelfBoundaries::shelved, m -> m.holds(s), NONE);
        }
        Check.taken("holds an EXPRESSION", ShelfBoundaries::shelved, m -> m.holds(3), 0);
    }

    @Sentence(in = "Promise 7", says = "an EXPRESSION's number; 100 and the SORT of a ROW.")
    static void holds_by_number() {
        Counted m = Check.chain(64);
        Check.due("show", m.show(0, 63) + m.show(7, 0), 2);
        Check.due("holds the 64th", m.holds(0), 63);
        Check.due("holds the first", m.holds(7), 0);
        for (int sort = 0; sort < 4; sort++) {
            m.row(sort, sort, 0);
            Check.due("holds a ROW of none", m.holds(sort), 100 + sort);
            m.row(sort, sort, 160);
            Check.due("holds a ROW of 160", m.holds(sort), 100 + sort);
        }
    }

    // ---- promise 8

    /** SHELVES 0 to 4 an EXPRESSION of each KIND: SCAN 1, KEEP 7, TALLY 2, JOIN 3, HALF 0; 5 a ROW, 6 and 7 NOTHING. */
    private static Counted saying() {
        Counted m = new Counted();
        m.table(10, 15, NONE, 4);
        m.table(10, 15, NONE, 4);
        m.scan(1);
        m.keep(7, 0);
        m.tally(2, 1);
        m.join(3, 1, 0);
        m.half(0, 3, 1);
        for (int s = 0; s < 5; s++) {
            m.show(s, s);
        }
        m.row(5, 0, 1);
        return m;
    }

    @Sentence(in = "Promise 8", says = "-1 SHELF, KIND;")
    static void says_of_no_shelf_or_kind() {
        Check.beyond("says in", ShelfBoundaries::saying, 0, 7, (m, s) -> m.says(s, 0), -1);
        Check.beyond("says as", ShelfBoundaries::saying, 0, 6, (m, kind) -> m.says(4, kind), -1);
        Check.refused("-1 KIND ahead of -2, of a ROW", ShelfBoundaries::saying, m -> m.says(5, 7), -1);
        Check.refused("-1 KIND ahead of -3", ShelfBoundaries::saying, m -> m.says(6, -1), -1);
        Check.taken("as KIND 0", ShelfBoundaries::saying, m -> m.says(4, 0), 4);
        Check.taken("as KIND 6", ShelfBoundaries::saying, m -> m.says(4, 6), 10);
        Check.taken("in SHELF 7", ShelfBoundaries::saying, m -> m.show(7, 4) * 10 + m.says(7, 5), 10);
    }

    @Sentence(in = "Promise 8", says = "-2 also one of another KIND;")
    static void says_of_another_kind() {
        int[][] under = {{0, 1}, {0, 2, 3}, {0, 2, 4}, {0, 5}, {0, 5, 6}};
        for (int s = 0; s < 5; s++) {
            for (int kind = 0; kind <= 6; kind++) {
                boolean is = false;
                for (int one : under[s]) {
                    is |= one == kind;
                }
                if (!is) {
                    int at = s;
                    int wanted = kind;
                    Check.refused("EXPRESSION " + s + " as " + kind, ShelfBoundaries::saying, m -> m.says(at, wanted), -2);
                }
            }
        }
        for (int kind = 0; kind <= 6; kind++) {
            int wanted = kind;
            Check.refused("a ROW as " + kind, ShelfBoundaries::saying, m -> m.says(5, wanted), -2);
        }
    }

    @Sentence(in = "REFUSALS", says = "an EXPRESSION that isn't of the KIND wanted, or one under it")
    static void says_of_one_under_it() {
        int[][] says = {{0, 1, NONE, NONE, NONE, NONE, NONE}, {1, NONE, 0, 7, NONE, NONE, NONE}, {2, NONE, 1, NONE, 2, NONE, NONE},
            {3, NONE, NONE, NONE, NONE, 3, NONE}, {4, NONE, NONE, NONE, NONE, 0, 10}};
        for (int s = 0; s < 5; s++) {
            for (int kind = 0; kind <= 6; kind++) {
                if (says[s][kind] != NONE) {
                    int at = s;
                    int wanted = kind;
                    Check.taken("EXPRESSION " + s + " as " + kind, ShelfBoundaries::saying, m -> m.says(at, wanted),
                        says[s][kind]);
                }
            }
        }
    }

    @Sentence(in = "Promise 8", says = "-3.")
    static void says_of_nothing() {
        for (int kind = 0; kind <= 6; kind++) {
            int wanted = kind;
            Check.refused("NOTHING as " + kind, ShelfBoundaries::saying, m -> m.says(6, wanted), -3);
        }
    }

    @Sentence(in = "Promise 8", says = "(each 99, if it is GONE)")
    static void says_of_one_gone() {
        // KEEP 3 of KEEP 1 of the SCAN becomes ALIKE to KEEP 3 of the SCAN; so do TALLY, JOIN and HALF of KEEP 1.
        Check.Make gone = () -> {
            Counted m = Check.scanned();
            m.keep(1, 0);
            m.keep(3, 0);
            m.tally(2, 0);
            m.join(3, 0, 0);
            m.half(1, 0, 0);
            m.keep(3, 1);
            m.tally(2, 1);
            m.join(3, 1, 1);
            m.half(1, 1, 1);
            for (int s = 0; s < 4; s++) {
                m.show(s, 6 + s);
            }
            m.show(4, 2);
            return m;
        };
        Check.taken("there is one yet", gone, m -> m.says(0, 0), 6);
        Check.taken("its x yet", gone, m -> m.says(0, 2), 1);
        int[][] says = {{0, 0, 99}, {0, 2, 99}, {0, 3, 3}, {1, 0, 99}, {1, 2, 99}, {1, 4, 2}, {2, 0, 99}, {2, 5, 3}, {3, 0, 99},
            {3, 5, 1}, {3, 6, 11}, {4, 0, 2}, {4, 2, 0}, {4, 3, 3}};
        for (int[] s : says) {
            Check.taken("EXPRESSION in " + s[0] + " as " + s[1], () -> {
                Counted m = gone.get();
                m.same(0, 1);
                return m;
            }, m -> m.says(s[0], s[1]), s[2]);
        }
        Check.refused("GONE, as another KIND", () -> {
            Counted m = gone.get();
            m.same(0, 1);
            return m;
        }, m -> m.says(0, 4), -2);
    }
}
