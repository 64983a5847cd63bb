/** The boundaries of DEALS, SEED, THE IMAGE and what status() tells: promises 40 to 44. */
final class RestBoundaries {
    private static final int NONE = PlanMemo.NONE;

    private RestBoundaries() {
    }

    /** DRAWS as the document tells them, reckoned without an int's wrap. */
    private static final class Draws {
        private long seed;

        Draws(int seed) {
            this.seed = seed & 0xFFFF_FFFFL;
        }

        int below(int n) {
            seed = (seed * 1_103_515_245L + 12_345L) % (1L << 32);
            return (int) (seed / 65_536 % n);
        }

        int seed() {
            return (int) seed;
        }
    }

    private static final int[] SEEDS = {1, 0, -1, 2, 12_345, Integer.MAX_VALUE, Integer.MIN_VALUE, -1_103_515_245, 77_777_777, 42, -42};

    /** GROUPS 0 to 3 of COLUMNS 0 and 1, 1 and 2, 2 and 3, all; GROUP 4 went into 3. */
    private static Counted dealt() {
        Counted m = new Counted();
        int[] columns = {3, 6, 12, 15};
        for (int t = 0; t < 4; t++) {
            m.table(10, columns[t], NONE, 4);
            m.scan(t);
        }
        m.same(3, m.keep(0, 3));
        return m;
    }

    // ---- 3. DEMANDS

    @Sentence(in = "3. DEMANDS", says = "x and y two DRAWS below how many GROUPS were ever made, taken as numbers;")
    static void draws_below_all_groups_ever_made() {
        for (int seed : SEEDS) {
            Counted m = dealt();
            m.seed(seed);
            Draws draws = new Draws(seed);
            int[] columns = new int[64];
            System.arraycopy(new int[] {3, 6, 12, 15, 15}, 0, columns, 0, 5);
            int groups = 5;
            int expressions = 5;
            StringBuilder joins = new StringBuilder(" ");
            for (int i = 0; i < 20; i++) {
                int c = draws.below(4);
                int x = draws.below(groups);
                int y = draws.below(groups);
                String join = c + "," + (x == 4 ? 3 : x) + "," + (y == 4 ? 3 : y) + " ";
                boolean isNew = (columns[x] & columns[y] & 1 << c) != 0 && joins.indexOf(" " + join) < 0;
                Check.due("deal " + i + " of SEED " + seed, m.deal(1), isNew ? 1 : 0);
                Check.due("SEED", m.status(5), draws.seed());
                if (isNew) {
                    joins.append(join);
                    columns[groups] = columns[x] | columns[y];
                    Check.due("its KIND", m.expression(expressions, 0), 5);
                    Check.due("its c", m.expression(expressions, 1), c);
                    Check.due("its x", m.expression(expressions, 2), x == 4 ? 3 : x);
                    Check.due("its y", m.expression(expressions, 3), y == 4 ? 3 : y);
                    Check.due("its GROUP", m.expression(expressions, 4), groups);
                    groups++;
                    expressions++;
                }
                Check.due("GROUPS ever made", m.status(9), groups);
            }
        }
    }

    @Sentence(in = "3. DEMANDS", says = "below how many GROUPS were ever made")
    static void draws_below_groups_though_expressions_are_more() {
        for (int seed = -20; seed <= 20; seed++) {
            // Two GROUPS and a third, whose JOIN is turned: four EXPRESSIONS.
            Counted m = new Counted();
            m.table(10, 15, NONE, 4);
            m.table(10, 15, NONE, 4);
            m.scan(0);
            m.scan(1);
            m.join(0, 0, 1);
            m.explore(1);
            m.seed(seed * 53_777_777);
            Draws draws = new Draws(seed * 53_777_777);
            int c = draws.below(4);
            int x = draws.below(3);
            int y = draws.below(3);
            boolean there = c == 0 && x + y == 1;
            Check.due("deal", m.deal(1), there ? 0 : 1);
            Check.due("its x", m.expression(4, 2), there ? -5 : x);
            Check.due("its y", m.expression(4, 3), there ? -5 : y);
            Check.due("its GROUP", m.expression(4, 4), there ? -5 : 3);
        }
    }

    @Sentence(in = "3. DEMANDS", says = "JOIN c of x and y is TOLD, if it may be and there is room.")
    static void dealt_if_it_may_be_and_there_is_room() {
        // Of COLUMN 0 alone: a JOIN by 0 may be, by 1 to 3 not.
        Counted m = new Counted();
        m.table(10, 1, NONE, 4);
        m.scan(0);
        Draws draws = new Draws(1);
        int there = 1;
        for (int i = 0; i < 30; i++) {
            int c = draws.below(4);
            int x = draws.below(there);
            int y = draws.below(there);
            int before = there;
            for (int e = 1; e < before && c == 0; e++) {
                c = m.expression(e, 2) == x && m.expression(e, 3) == y ? NONE : c;
            }
            there += c == 0 ? 1 : 0;
            Check.due("deal", m.deal(1), there - before);
            Check.due("REFUSALS", m.refusals(6), 0);
            if (m.callsLeft() < 200) {
                break;
            }
        }
        Check.due("some", there > 1, true);
        for (int filled = 60; filled <= 64; filled++) {
            for (int seed : SEEDS) {
                Counted full = Check.chain(filled);
                full.seed(seed);
                Draws all = new Draws(seed);
                int groups = filled;
                for (int i = 0; i < 20; i++) {
                    all.below(4);
                    all.below(groups);
                    all.below(groups);
                    groups = Math.min(64, groups + 1);
                }
                // All may be, and none are ALIKE, but that the same is drawn twice.
                int answer = full.deal(20);
                Check.due("deal with " + filled, answer, full.status(1) - filled);
                Check.due("EXPRESSIONS", full.status(1), 64);
                Check.due("GROUPS ever made", full.status(9), 64);
                Check.due("no room is no refusal", full.refusals(7), 0);
                Check.due("SEED behind 60 DRAWS", full.status(5), all.seed());
            }
        }
    }

    @Sentence(in = "3. DEMANDS", says = "SEED (1 at first) becomes SEED times 1103515245, and 12345 (an int, wrapping);")
    static void seed_wraps() {
        Check.due("at first", new Counted().status(5), 1);
        for (int seed : SEEDS) {
            Counted m = Check.scanned();
            m.seed(seed);
            Draws draws = new Draws(seed);
            for (int n = 1; n <= 20; n++) {
                int groups = m.status(9);
                int before = m.status(1);
                Check.due("deal", m.deal(1) >= 0, true);
                draws.below(4);
                draws.below(groups);
                draws.below(groups);
                Check.due("SEED", m.status(5), draws.seed());
                Check.due("EXPRESSIONS", m.status(1) >= before, true);
            }
        }
        Counted first = Check.scanned();
        first.seed(0);
        first.deal(1);
        // 12345, then twice on.
        int by = 12_345;
        for (int i = 0; i < 2; i++) {
            by = by * 1_103_515_245 + 12_345;
        }
        Check.due("SEED from 0", first.status(5), by);
    }

    @Sentence(in = "3. DEMANDS", says = "its upper 16 bits, no sign, modulo n.")
    static void upper_bits_without_sign() {
        // One GROUP: the COLUMN alone is drawn. SEEDS for which the next SEED is below 0, and not.
        int below = 0;
        for (int seed = -40; seed <= 40; seed++) {
            Counted m = Check.scanned();
            m.seed(seed * 53_777_777);
            Draws draws = new Draws(seed * 53_777_777);
            int c = draws.below(4);
            below += draws.seed() < 0 ? 1 : 0;
            Check.due("deal", m.deal(1), 1);
            Check.due("its c", m.expression(1, 1), c);
            Check.due("its x", m.expression(1, 2), 0);
        }
        Check.due("some are below 0, some not", below > 10 && below < 70, true);
        // Three GROUPS: modulo 3 a sign would show.
        for (int seed = -40; seed <= 40; seed++) {
            Counted m = Check.scanned();
            m.keep(0, 0);
            m.keep(1, 0);
            m.seed(seed * 53_777_777);
            Draws draws = new Draws(seed * 53_777_777);
            int c = draws.below(4);
            int x = draws.below(3);
            int y = draws.below(3);
            Check.due("deal", m.deal(1), 1);
            Check.due("its c", m.expression(3, 1), c);
            Check.due("its x", m.expression(3, 2), x);
            Check.due("its y", m.expression(3, 3), y);
        }
    }

    // ---- promise 40

    @Sentence(in = "Promise 40", says = "-5 no GROUP yet;")
    static void deal_of_no_group() {
        Check.Make none = () -> {
            Counted m = new Counted();
            m.table(10, 15, NONE, 4);
            return m;
        };
        Check.refused("no GROUP", none, m -> m.deal(1), -5);
        Check.refused("no GROUP", Counted::new, m -> m.deal(20), -5);
        Check.refused("-5 ahead of -6", none, m -> m.deal(0), -5);
        Check.refused("-5 ahead of -6", none, m -> m.deal(21), -5);
        Check.taken("one GROUP", Check::scanned, m -> m.deal(1), 1);
        Check.refused("no GROUP any more", () -> {
            Counted m = new Counted();
            m.image();
            m.table(10, 15, NONE, 4);
            m.scan(0);
            m.restore();
            return m;
        }, m -> m.deal(1), -5);
    }

    @Sentence(in = "Promise 40", says = "-6.")
    static void deal_1_to_20() {
        Check.edges("deal", RestBoundaries::dealt, 1, 20, (m, n) -> m.deal(n), -6);
    }

    @Sentence(in = "Promise 40", says = "DEALS by draws, n (1 to 20): how many became new EXPRESSIONS.")
    static void deal_of_n_is_n_deals() {
        for (int n = 1; n <= 20; n++) {
            int times = n;
            Counted ones = dealt();
            int sum = 0;
            for (int i = 0; i < n; i++) {
                sum += ones.deal(1);
            }
            int news = sum;
            Check.taken("deal(" + n + ")", RestBoundaries::dealt, m -> m.deal(times), news);
            Check.alike("deal(" + n + ") is as often deal(1)", () -> {
                Counted m = dealt();
                m.deal(times);
                return m;
            }, () -> {
                Counted m = dealt();
                for (int i = 0; i < times; i++) {
                    m.deal(1);
                }
                return m;
            });
        }
    }

    // ---- promise 41

    @Sentence(in = "Promise 41", says = "what it was (nothing is refused).")
    static void seed_of_any_int() {
        int was = 1;
        Counted m = new Counted();
        for (int seed : SEEDS) {
            Check.due("seed(" + seed + ")", m.seed(seed), was);
            Check.due("status(5)", m.status(5), seed);
            was = seed;
        }
        for (int number = 1; number <= 7; number++) {
            Check.due("REFUSALS", m.refusals(number), 0);
        }
    }

    // ---- promises 42 and 43

    private static final Check.Call NOTHING = m -> 0;

    /** THE IMAGE is taken, all that a call changes is changed, and it is restored: all is as it was. */
    private static void restored(String what, Check.Call change) {
        Check.Make ahead = () -> {
            Counted m = Check.busy();
            m.image();
            return m;
        };
        Check.alike("restored: " + what, () -> {
            Counted m = ahead.get();
            change.on(m);
            // Asked for, so that nothing that is reckoned once and kept comes through restore().
            m.cost(2, 2, 4);
            m.group(2, 1);
            m.next(3);
            Check.due("restore", m.restore(), m.status(1));
            return m;
        }, ahead);
        Check.alike("restored twice: " + what, () -> {
            Counted m = ahead.get();
            change.on(m);
            m.restore();
            change.on(m);
            Check.due("restore", m.restore(), m.status(1));
            return m;
        }, ahead);
    }

    @Sentence(in = "Promise 43", says = "All is as THE IMAGE has it;")
    static void all_is_as_the_image_has_it() {
        restored("nothing", NOTHING);
        restored("a TABLE", m -> m.table(1, 1, 0, 0));
        restored("DISTINCT", m -> m.distinct(0, 3) + m.distinct(3, 999_999));
        restored("EXPRESSIONS", m -> m.tally(2, 0) + m.join(1, 1, 0));
        restored("GROUPS that MERGE", m -> m.same(0, 2));
        restored("GROUPS that MERGE", m -> m.same(7, 1));
        restored("all GROUPS that can", m -> m.same(0, 2) + m.same(5, 0) + m.same(7, 1));
        restored("FIRINGS", m -> m.explore(7));
        restored("all FIRINGS", m -> m.explore(200));
        restored("KINDS", m -> m.allow(4, false) + m.allow(1, false));
        restored("SEED", m -> m.seed(99));
        restored("DEALS", m -> m.deal(20));
        restored("a TEXT", m -> m.read("tally 1(keep 3(scan 1))") * 0 + m.row(7, 0, 0) + m.show(7, NONE) + m.read(1));
    }

    @Sentence(in = "Promise 43", says = "All is as THE IMAGE has it; SHELVES")
    static void restored_from_the_first_to_the_64th() {
        // 64 EXPRESSIONS, each merged with the next and FIRED with it, then as they were.
        Check.Make ahead = () -> {
            Counted m = Check.chain(62);
            m.join(3, 61, 0);
            m.half(3, 62, 1);
            m.image();
            return m;
        };
        Check.alike("all that MERGE", () -> {
            Counted m = ahead.get();
            for (int g = 63; g > 0; g -= 2) {
                m.same(g, g - 1);
            }
            m.explore(200);
            m.cost(0, 1, 1);
            Check.due("restore", m.restore(), 64);
            return m;
        }, ahead);
        // FIRINGS of the last ones are FIRINGS again.
        Counted m = Check.chain(61);
        m.half(0, 60, 0);
        m.half(1, 61, 0);
        m.half(2, 0, 0);
        m.image();
        int first = 0;
        int last = 0;
        for (int round = 0; round < 3; round++) {
            int fired = m.explore(200);
            first = round == 0 ? fired : first;
            last = fired;
            Check.due("restore", m.restore(), 64);
        }
        Check.due("as many again", last, first);
        Counted two = Check.scanned();
        for (int p = 0; p < 8; p++) {
            two.same(0, two.keep(p, 0));
        }
        for (int c = 0; c < 4; c++) {
            two.same(0, two.half(c, 0, 0));
        }
        two.image();
        // PASS 56, ONCE 8, SINK 32, SWAP 16.
        for (int round = 0; round < 3; round++) {
            Check.due("explore", two.explore(200), 112);
            Check.due("fired SWAP", two.fired(6), 16);
            Check.due("none more", two.explore(1), 0);
            two.restore();
            Check.due("none FIRED", two.status(4), 0);
        }
        Check.due("explore but the last", two.explore(111), 111);
        two.image();
        Check.due("the last", two.explore(200), 1);
        two.restore();
        Check.due("the last again", two.explore(200), 1);
    }

    @Sentence(in = "Promise 42", says = "THE IMAGE of all but SHELVES (and THE IMAGE, THE PLAN, REFUSALS, the FAULT, THE TRACE) is taken")
    static void what_the_image_has_not() {
        Check.Call[] changes = {m -> m.row(0, 1, 7), m -> m.set(0, 0, 99), m -> m.show(5, 1), m -> m.show(2, NONE),
            m -> m.plan(0, 0, NONE), m -> m.keep(9, 0), m -> m.cost(99, 0, 0), m -> m.row(3, 0, 0) + m.read(3),
            m -> m.price(11, 1, 2, 3)};
        for (Check.Call change : changes) {
            Check.alike("not restored", () -> {
                Counted m = Check.busy();
                m.image();
                change.on(m);
                m.restore();
                return m;
            }, () -> {
                Counted m = Check.busy();
                m.image();
                change.on(m);
                return m;
            });
            Counted one = Check.busy();
            Counted other = Check.busy();
            one.image();
            other.image();
            change.on(one);
            change.on(other);
            one.restore();
            for (int number = 1; number <= 7; number++) {
                Check.due("REFUSALS", one.refusals(number), other.refusals(number));
            }
        }
        // restore() leaves THE IMAGE; what comes behind it does not change it.
        Counted m = Check.scanned();
        Check.due("image", m.image(), 1);
        m.keep(0, 0);
        m.same(0, 1);
        Check.due("restore", m.restore(), 1);
        m.tally(1, 0);
        Check.due("restore again", m.restore(), 1);
        Check.due("GROUPS", m.status(9), 1);
        Check.due("image anew", m.keep(3, 0) + m.image(), 1 + 2);
        m.tally(1, 0);
        Check.due("restore the latest", m.restore(), 2);
        Check.due("KEEP 3", m.expression(1, 1), 3);
    }

    @Sentence(in = "Promise 42", says = "is taken: how many EXPRESSIONS.")
    static void image_of_none_and_of_all() {
        Counted m = new Counted();
        Check.due("image of none", m.image(), 0);
        m.table(10, 15, NONE, 4);
        m.scan(0);
        Check.due("restore of none", m.restore(), 0);
        Check.due("TABLES", m.status(0), 0);
        Check.due("scan", m.scan(0), -1);
        for (int n = 62; n <= 64; n++) {
            Counted chain = Check.chain(n);
            Check.due("image of " + n, chain.image(), n);
            chain.explore(200);
            Check.due("restore of " + n, chain.restore(), n);
            Check.due("EXPRESSIONS", chain.status(1), n);
            Check.due("one more", chain.tally(0, 0), n == 64 ? -7 : n);
        }
        Counted gone = Check.scanned();
        gone.keep(1, 0);
        gone.keep(0, 0);
        gone.keep(0, 1);
        gone.same(0, 1);
        Check.due("image with one GONE", gone.image(), 4);
        Check.due("restore with one GONE", gone.restore(), 4);
        Check.due("GONE", gone.status(3), 1);
    }

    @Sentence(in = "Promise 43", says = "SHELVES with EXPRESSIONS hold those of these numbers, or NOTHING: how many EXPRESSIONS.")
    static void shelves_behind_restore() {
        for (int n = 1; n <= 5; n++) {
            Counted m = Check.chain(n);
            m.image();
            Check.fill(m, 8);
            for (int s = 0; s < 8; s++) {
                Check.due("show", m.show(s, s), 1);
            }
            m.row(7, 2, 3);
            m.set(7, 2, 9);
            Check.due("restore", m.restore(), n);
            for (int s = 0; s < 7; s++) {
                Check.due("SHELF with EXPRESSION " + s + " of " + n, m.holds(s), s < n ? s : NONE);
                Check.due("what it says", m.says(s, 0), s < n ? s : -3);
            }
            Check.due("a ROW", m.holds(7), 102);
            Check.due("its element", m.element(7, 2), 9);
            Check.fill(m, 8);
            Check.due("NOTHING it stays", m.holds(6), NONE);
        }
        for (int s = 0; s < 8; s++) {
            for (int e = 2; e <= 5; e++) {
                Counted m = Check.chain(4);
                m.image();
                Check.fill(m, 6);
                m.show(s, e);
                Check.due("restore", m.restore(), 4);
                Check.due("SHELF " + s + " with EXPRESSION " + e, m.holds(s), e < 4 ? e : NONE);
            }
        }
        // Of the same number another EXPRESSION; one that was GONE is not.
        Counted m = Check.scanned();
        m.keep(1, 0);
        m.keep(0, 0);
        m.keep(0, 1);
        m.image();
        m.same(0, 1);
        m.show(0, 3);
        Check.due("GONE", m.says(0, 0), 99);
        Check.due("restore", m.restore(), 4);
        Check.due("not GONE", m.says(0, 0), 3);
        Counted two = Check.scanned();
        two.image();
        two.keep(0, 0);
        two.restore();
        two.tally(2, 0);
        two.show(0, 1);
        two.image();
        two.restore();
        Check.due("a TALLY", two.says(0, 4), 2);
    }

    @Sentence(in = "Promise 43", says = "-6 there is none.")
    static void restore_of_none() {
        Check.refused("no IMAGE", () -> {
            Counted m = Check.scanned();
            m.show(0, 0);
            m.keep(0, 0);
            return m;
        }, m -> m.restore(), -6);
        Check.refused("no IMAGE", Counted::new, m -> m.restore(), -6);
        Check.taken("an IMAGE", () -> {
            Counted m = Check.scanned();
            m.image();
            return m;
        }, m -> m.restore(), 1);
    }

    // ---- promise 44, REFUSALS

    @Sentence(in = "Promise 44", says = "NONE for another what.")
    static void status_of_another_what() {
        for (int what : new int[] {-1, -2, 10, 18, 19, 27, 256, Integer.MIN_VALUE, Integer.MIN_VALUE + 10, Integer.MAX_VALUE}) {
            Check.taken("status(" + what + ")", Check::busy, m -> m.status(what), NONE);
        }
        for (int what = 0; what <= 17; what++) {
            int one = what;
            Check.taken("status(" + what + ")", Check::busy, m -> m.status(one) == NONE ? 1 : 0, what == 10 ? 1 : 0);
        }
    }

    @Sentence(in = "Promise 44", says = "0 TABLES, 1 EXPRESSIONS (GONE ones too), 2 GROUPS that haven't gone into others, 3 EXPRESSIONS that are GONE, "
        + "4 FIRINGS fired, 5 SEED, 6 NODES of THE PLAN")
    static void status_of_each() {
        Counted m = Check.scanned();
        m.table(10, 15, NONE, 4);
        m.keep(1, 0);
        m.keep(4, 0);
        m.keep(4, 1);
        m.join(0, 3, 1);
        m.same(0, 1);
        m.seed(-5);
        m.explore(2);
        m.plan(4, NONE, NONE);
        int[] status = {2, 6, 3, 1, 2, -5, 4};
        for (int what = 0; what < status.length; what++) {
            Check.due("status(" + what + ")", m.status(what), status[what]);
        }
        Check.due("GROUPS ever made", m.status(9), 5);
        Counted full = Check.chain(64);
        Check.due("EXPRESSIONS", full.status(1), 64);
        Check.due("GROUPS", full.status(2), 64);
        Check.due("GROUPS ever made", full.status(9), 64);
        for (int g = 63; g > 0; g--) {
            full.same(g, g - 1);
        }
        Check.due("GROUPS", full.status(2), 1);
        Check.due("GROUPS ever made", full.status(9), 64);
        Check.due("GONE", full.status(3), 61);
    }

    @Sentence(in = "Promise 44", says = "7 KINDS ALLOWED (bits by KIND; those of which allow() can't tell always are: 4095 at first)")
    static void status_of_kinds_allowed() {
        Counted m = new Counted();
        Check.due("at first", m.status(7), 4095);
        for (int kind = -1; kind <= 12; kind++) {
            m.allow(kind, false);
        }
        Check.due("those of which allow() can't tell", m.status(7), 1 + 8 + 128);
        for (int kind = -1; kind <= 12; kind++) {
            m.allow(kind, true);
        }
        Check.due("all", m.status(7), 4095);
    }

    @Sentence(in = "Promise 44", says = "8 bodies that ran in the latest price() (all, kept or not)")
    static void status_of_bodies() {
        int[] ran = {3, 3, 3, 5, 6, 6, 6, 4, 5, 4, 4, 4};
        Counted m = new Counted();
        Check.due("at first", m.status(8), 0);
        for (int kind = 0; kind <= 11; kind++) {
            m.price(kind, 1, 1, 1);
            Check.due("status(8) of " + kind, m.status(8), ran[kind]);
        }
    }

    @Sentence(in = "Promise 44", says = "11 to 17: REFUSALS -1 to -7.")
    static void status_of_refusals() {
        Check.Make make = () -> {
            Counted m = Check.chain(64);
            m.show(0, 0);
            return m;
        };
        Check.Call[] refused = {m -> m.groupOf(99), m -> m.set(0, 0, 0), m -> m.set(1, 0, 0), m -> m.row(1, 0, -1), m -> m.fired(9),
            m -> m.explore(0), m -> m.tally(0, 0)};
        for (int number = 1; number <= 7; number++) {
            Counted m = make.get();
            for (int i = 1; i <= 50; i++) {
                Check.due("refused", refused[number - 1].on(m), -number);
                Check.due("status(" + (10 + number) + ")", m.status(10 + number), i);
            }
            for (int other = 1; other <= 7; other++) {
                Check.due("status(" + (10 + other) + ")", m.status(10 + other), other == number ? 50 : 0);
            }
        }
    }

    @Sentence(in = "REFUSALS", says = "REFUSALS (the call answers the number; nothing changes but how many there were")
    static void answers_of_none_are_no_refusals() {
        Check.Call[] calls = {m -> m.element(99, 99), m -> m.holds(99), m -> m.show(0, NONE), m -> m.fault(), m -> m.next(0),
            m -> m.cost(0, 3, 3), m -> m.costBy(0, 3, 3), m -> m.within(0, 3, 3), m -> m.where(0, 3), m -> m.worth(0, 3, 3, 1),
            m -> m.trace(99), m -> m.status(99), m -> m.seed(7), m -> m.explore(1), m -> m.trees(0, 0), m -> m.expression(0, 2),
            m -> m.tableOf(0, 2)};
        for (int i = 0; i < calls.length; i++) {
            Counted m = new Counted();
            m.table(10, 1, NONE, 4);
            m.scan(0);
            calls[i].on(m);
            for (int number = 1; number <= 7; number++) {
                Check.due("call " + i + ", REFUSALS -" + number, m.refusals(number), 0);
            }
        }
    }

    @Sentence(in = "REFUSALS", says = "-1 NOBODY: no such SHELF, GROUP, EXPRESSION, KIND, TABLE, COLUMN.")
    static void far_refusals_are_counted_as_near_ones() {
        Counted m = Check.scanned();
        Check.due("cost", m.cost(1, 0, 0), -11);
        Check.due("costBy", m.costBy(1, 0, 0), -11);
        Check.due("where", m.where(1, 0), -11);
        Check.due("worth", m.worth(1, 0, 0, 1), -11);
        Check.due("worth", m.worth(0, 0, 0, 3), -11);
        Check.due("demands", m.demands(1, 0, 0), -1);
        Check.due("within", m.within(1, 0, 0), -1);
        Check.due("REFUSALS -1", m.refusals(1), 7);
        Check.due("cost", m.cost(0, 4, 0), -16);
        Check.due("costBy", m.costBy(0, 0, 5), -16);
        Check.due("where", m.where(0, 4), -16);
        Check.due("worth", m.worth(0, 0, 5, 1), -16);
        Check.due("demands", m.demands(0, 4, 0), -6);
        Check.due("within", m.within(0, 0, 5), -6);
        Check.due("REFUSALS -6", m.refusals(6), 6);
        Check.due("REFUSALS -1", m.refusals(1), 7);
    }
}
