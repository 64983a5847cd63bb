/** The boundaries of RULES and FIRINGS: promises 23 to 25. */
final class RuleBoundaries {
    private static final int NONE = PlanMemo.NONE;

    private RuleBoundaries() {
    }

    private static void noFiring(Counted m) {
        Check.firing(m, NONE, NONE, NONE, NONE);
        Check.due("explore", m.explore(1), 0);
    }

    // ---- 2. RULES: which FIRINGS there are

    @Sentence(in = "2. RULES", says = "EXPRESSIONS e and f (not GONE), f in the GROUP x of e (RULE 0: no f, NONE).")
    static void not_gone_and_in_the_group_x() {
        // EXPRESSION 4 is GONE by same(): the JOIN of what is merged, and with it no TURN, nor SINK of it.
        Counted m = Check.scans(15, 15, 15);
        m.join(0, 0, 2);
        m.join(0, 1, 2);
        m.keep(0, 4);
        m.same(0, 1);
        Check.expression(m, 4, 5, 0, NONE, NONE, NONE, 1);
        Check.firing(m, 3, 0, NONE, 1);
        Check.due("explore", m.explore(1), 1);
        // Neither (4, 0, NONE) nor (5, 2, 4): the next is with f 3, then with what TURN has brought.
        Check.firing(m, 5, 2, 3, 1);
        Check.due("explore", m.explore(1), 1);
        Check.firing(m, 5, 2, 6, 1);

        // f in y of e is none.
        Counted y = Check.scans(15, 15);
        y.join(0, 0, 1);
        y.half(0, 0, 1);
        y.half(1, 1, 3);
        Check.due("TURN alone, there and back", y.explore(9), 2);
        Check.due("fired TURN", y.fired(0), 2);
        noFiring(y);
        // f elsewhere is none.
        Counted f = Check.scans(15, 15);
        f.keep(0, 0);
        f.keep(2, 1);
        noFiring(f);
        // RULE 0 has no f.
        Counted t = Check.scans(15, 15);
        t.join(2, 0, 1);
        Check.firing(t, 2, 0, NONE, 1);
    }

    @Sentence(in = "2. RULES", says = "What is in [ ] is TOLD first.")
    static void what_is_in_brackets_is_told_first() {
        Counted m = Check.scans(15);
        m.keep(2, 0);
        m.keep(5, 1);
        Check.due("explore", m.explore(1), 1);
        Check.expression(m, 3, 3, 5, 0, NONE, 3);
        Check.expression(m, 4, 3, 2, 3, NONE, 2);
        Check.due("GROUPS ever made", m.status(9), 4);
        Counted there = Check.scans(15);
        there.keep(2, 0);
        there.keep(5, 1);
        there.keep(5, 0);
        Check.due("explore", there.explore(1), 1);
        Check.expression(there, 4, 3, 2, 3, NONE, 2);
        Check.due("GROUPS ever made", there.status(9), 4);
    }

    @Sentence(in = "2. RULES", says = "if one ALIKE is there, its GROUP and that of e MERGE, else it becomes the next EXPRESSION, in the GROUP of e.")
    static void alike_merges_else_the_next() {
        Counted m = Check.scans(15, 15);
        m.join(3, 0, 1);
        Check.due("explore", m.explore(1), 1);
        Check.expression(m, 3, 5, 3, 1, 0, 2, 0);
        Check.due("how many", m.group(2, 0), 2);
        Check.due("GROUPS ever made", m.status(9), 3);
        Counted there = Check.scans(15, 15);
        there.join(3, 1, 0);
        there.join(3, 0, 1);
        Check.due("explore", there.explore(1), 1);
        Check.due("merged", there.groupOf(3), 2);
        Check.due("EXPRESSIONS", there.status(1), 4);
        Check.due("GONE", there.status(3), 0);
        // The one that is there has the lesser GROUP.
        Counted less = Check.scans(15, 15);
        less.keep(4, 0);
        less.keep(6, 2);
        less.keep(4, 1);
        less.same(1, 3);
        Check.due("what comes of it is there", less.keep(6, 0), 5);
        Check.due("what comes of it is there", less.keep(4, 5), 6);
        less.keep(0, 6);
        Check.due("explore", less.explore(1), 1);
        Check.due("merged", less.groupOf(6), 1);
    }

    @Sentence(in = "2. RULES", says = "Here JOIN is just that KIND, not HALF, unless HALF is named.")
    static void join_is_not_half() {
        Counted turn = Check.scans(15, 15);
        turn.half(0, 0, 1);
        noFiring(turn);
        Counted lean = Check.scans(15, 15, 15);
        lean.half(0, 0, 1);
        lean.join(0, 3, 2);
        Check.due("TURN alone, there and back", lean.explore(9), 2);
        Check.due("fired TURN", lean.fired(0), 2);
        Counted leanOfHalf = Check.scans(15, 15, 15);
        leanOfHalf.join(0, 0, 1);
        leanOfHalf.half(0, 3, 2);
        Check.due("TURN alone, there and back", leanOfHalf.explore(9), 2);
        Check.due("fired TURN", leanOfHalf.fired(0), 2);
        Counted swap = Check.scans(15, 15, 15);
        swap.half(0, 0, 1);
        swap.half(1, 3, 2);
        Check.firing(swap, 4, 6, 3, 1);
    }

    @Sentence(in = "2. RULES", says = "0 TURN: e JOIN c of x and y: JOIN c of y and x.")
    static void turn_of_one_group() {
        Counted m = Check.scans(15);
        m.join(1, 0, 0);
        Check.firing(m, 1, 0, NONE, 1);
        Check.due("explore", m.explore(9), 1);
        Check.due("nothing is new", m.status(1), 2);
        Check.due("fired", m.fired(0), 1);
        Counted two = Check.scans(15, 15);
        two.join(1, 1, 0);
        Check.due("there and back", two.explore(9), 2);
        Check.due("one is new", two.status(1), 4 - 0);
        Check.expression(two, 3, 5, 1, 0, 1, 2);
    }

    @Sentence(in = "2. RULES", says = "c one of the COLUMNS of v: JOIN d of u and [JOIN c of v and z]")
    static void lean_if_c_is_one_of_v() {
        for (int c = 0; c < 3; c++) {
            // u has COLUMNS 0 and 1, v 0 and 2, z all.
            Counted m = Check.scans(3, 5, 15);
            m.half(0, 0, 1);
            m.join(0, 0, 1);
            Check.due("c", m.join(c, 4, 2), 5);
            m.explore(2);
            if (c == 1) {
                // With f 4, v has not COLUMN 1; with what TURN has made of it, v is GROUP 0, which has.
                Check.firing(m, 5, 1, 6, 1);
            } else {
                Check.firing(m, 5, 1, 4, 1);
                Check.due("explore", m.explore(1), 1);
                Check.expression(m, 8, 5, c, 1, 2, 6);
                Check.expression(m, 9, 5, 0, 0, 6, 5);
            }
        }
    }

    @Sentence(in = "2. RULES", says = "the COLUMN of p one of u: f's KIND, c, of [KEEP p of u] and v")
    static void sink_if_the_column_is_one_of_u() {
        for (int p = 0; p < 6; p++) {
            for (int kind = 5; kind <= 6; kind++) {
                // u has COLUMNS 0 and 1, v 1 and 2.
                Counted m = Check.scans(3, 6);
                int g = kind == 5 ? m.join(1, 0, 1) : m.half(1, 0, 1);
                if (kind == 6 && p >= 4) {
                    Check.due("no such KEEP", m.keep(p, g), -6);
                    continue;
                }
                Check.due("keep", m.keep(p, g), 3);
                m.explore(kind == 5 ? 1 : 0);
                int next = kind == 5 ? 5 : 4;
                if (p < 4) {
                    Check.firing(m, 3, 2, 2, 1);
                    Check.due("explore", m.explore(1), 1);
                    Check.expression(m, next, 3, p, 0, NONE, 4);
                    Check.expression(m, next + 1, kind, 1, 4, 1, 3);
                } else {
                    // With the JOIN turned, u is GROUP 1.
                    Check.firing(m, 3, 2, 4, 1);
                }
            }
        }
    }

    @Sentence(in = "2. RULES", says = "q not p: KEEP q of [KEEP p of u]")
    static void pass_if_q_is_not_p() {
        for (int p = 0; p < 8; p++) {
            for (int q = 0; q < 8; q++) {
                Counted m = Check.scans(15);
                m.keep(q, 0);
                m.keep(p, 1);
                Check.firing(m, 2, p == q ? 4 : 3, 1, 1);
                Check.due("explore", m.explore(1), 1);
                Check.due("fired PASS", m.fired(3), p == q ? 0 : 1);
                Check.due("fired ONCE", m.fired(4), p == q ? 1 : 0);
                Check.due("EXPRESSIONS", m.status(1), p == q ? 3 : 5);
                Check.due("GROUPS", m.status(2), p == q ? 2 : 4);
            }
        }
    }

    @Sentence(in = "2. RULES", says = "4 ONCE: e KEEP p and f KEEP p, or e TALLY c and f TALLY c: nothing comes, but the GROUPS of e and f MERGE.")
    static void once_of_the_same_alone() {
        Counted keep = Check.scans(15);
        keep.keep(3, 0);
        keep.keep(3, 1);
        Check.firing(keep, 2, 4, 1, 1);
        Check.due("explore", keep.explore(1), 1);
        Check.due("merged", keep.groupOf(2), 1);
        Check.due("EXPRESSIONS", keep.status(1), 3);
        // EXPRESSION 2 is in its own x now, and its own f once.
        Check.firing(keep, 2, 4, 2, 1);
        Check.due("explore", keep.explore(9), 1);
        noFiring(keep);
        Counted tally = Check.scans(15);
        tally.tally(2, 0);
        tally.tally(2, 1);
        Check.firing(tally, 2, 4, 1, 1);
        Check.due("explore", tally.explore(1), 1);
        Check.due("merged", tally.groupOf(2), 1);
        // A KEEP of a TALLY of the same number, and a TALLY of a KEEP, are none.
        Counted mixed = Check.scans(15);
        mixed.tally(0, 0);
        mixed.keep(0, 1);
        noFiring(mixed);
        Counted other = Check.scans(15);
        other.keep(1, 0);
        other.tally(1, 1);
        noFiring(other);
    }

    @Sentence(in = "2. RULES", says = "the COLUMN of p is c: KEEP p of [TALLY c of u]")
    static void under_if_the_column_is_c() {
        for (int c = 0; c < 4; c++) {
            for (int p = 0; p < 8; p++) {
                Counted m = Check.scans(15);
                m.keep(p, 0);
                m.tally(c, 1);
                if (p / 2 == c) {
                    Check.firing(m, 2, 5, 1, 1);
                    Check.due("explore", m.explore(1), 1);
                    Check.expression(m, 3, 4, c, 0, NONE, 3);
                    Check.expression(m, 4, 3, p, 3, NONE, 2);
                }
                noFiring(m);
            }
        }
    }

    @Sentence(in = "2. RULES", says = "6 SWAP: e HALF c of x and z, f HALF d of u and v: HALF d of [HALF c of u and z] and v.")
    static void swap_of_halves() {
        Counted m = Check.scans(15, 14, 13);
        m.half(1, 0, 1);
        m.half(2, 3, 2);
        Check.firing(m, 4, 6, 3, 1);
        Check.due("explore", m.explore(1), 1);
        Check.expression(m, 5, 6, 2, 0, 2, 5);
        Check.expression(m, 6, 6, 1, 5, 1, 4);
        Check.firing(m, 6, 6, 5, 1);
        Check.due("back again", m.explore(9), 1);
        Check.due("nothing is new", m.status(1), 7);
        Check.due("fired SWAP", m.fired(6), 2);
    }

    @Sentence(in = "2. RULES", says = "A FIRING that was FIRED (the same e, RULE, f) never is one again.")
    static void never_again() {
        Counted m = Check.scans(15, 15, 15);
        m.keep(0, 0);
        m.keep(2, 3);
        m.join(0, 1, 2);
        Check.due("explore", m.explore(200), 4);
        noFiring(m);
        int expressions = m.status(1);
        // x and y of the JOIN are others then, but its TURN was FIRED.
        m.same(0, 1);
        m.same(1, 2);
        Check.due("fired TURN", m.fired(0), 2);
        Check.due("the JOIN turned is GONE", m.status(3), 1);
        noFiring(m);
        Check.due("EXPRESSIONS", m.status(1), expressions);
        // With another f it is another one.
        m.same(3, 0);
        Check.firing(m, 3, 4, 3, 1);
        m.image();
        int before = m.status(4);
        int more = m.explore(200);
        Check.due("some more", more > 0, true);
        Check.due("FIRINGS", m.status(4), before + more);
        noFiring(m);
        m.restore();
        Check.firing(m, 3, 4, 3, 1);
        Check.due("again, as THE IMAGE has them not FIRED", m.explore(200), more);
    }

    @Sentence(in = "2. RULES", says = "The NEXT FIRING: the one of least e, of those of least RULE, of those of least f.")
    static void least_e_then_rule_then_f() {
        Counted m = Check.scans(15);
        m.keep(0, 0);
        m.keep(2, 0);
        m.join(0, 0, 0);
        m.half(0, 0, 0);
        m.same(4, 3);
        m.same(3, 2);
        m.same(2, 1);
        Check.due("keep", m.keep(0, 1), 5);
        Check.firing(m, 3, 0, NONE, 1);
        Check.due("TURN", m.explore(1), 1);
        Check.firing(m, 5, 2, 3, 1);
        Check.due("SINK of the JOIN", m.explore(1), 1);
        Check.expression(m, 6, 5, 0, 1, 0, 5);
        Check.firing(m, 5, 2, 4, 1);
        Check.due("SINK of the HALF", m.explore(1), 1);
        Check.expression(m, 7, 6, 0, 1, 0, 5);
        Check.firing(m, 5, 3, 2, 1);
        Check.due("PASS", m.explore(1), 1);
        Check.expression(m, 8, 3, 2, 1, NONE, 5);
        Check.firing(m, 5, 4, 1, 1);
        Check.due("ONCE", m.explore(1), 1);
        // GROUP 5 went into 1, which is x of EXPRESSION 5: SINK of 6 comes ahead of all of 6, 7 and 8.
        Check.firing(m, 5, 2, 6, 1);
    }

    // ---- room

    /** The NEXT FIRING of a Make's object brings so many new EXPRESSIONS: it is fired if there is room for all. */
    private static void room(String what, Check.Make make, int news) {
        for (int there = 60; there <= 64; there++) {
            int expressions = there;
            Check.Make filled = () -> {
                Counted m = make.get();
                Check.fill(m, expressions);
                return m;
            };
            boolean fits = there + news <= 64;
            String of = what + " with " + there;
            Check.taken(of + ", EXPRESSIONS", filled, m -> m.status(1), there);
            Check.taken(of + ", next(3)", filled, m -> m.next(3), fits ? 1 : 0);
            Check.taken(of + ", explore(1)", filled, m -> m.explore(1), fits ? 1 : 0);
            Check.taken(of + ", EXPRESSIONS then", filled, m -> m.explore(1) * 0 + m.status(1), fits ? there + news : there);
            Check.taken(of + ", FIRINGS more", filled, m -> -m.status(4) + m.explore(1) * 0 + m.status(4), fits ? 1 : 0);
            if (!fits) {
                Check.taken(of + ", explore(200)", filled, m -> m.explore(200), 0);
                Check.alike(of + ": nothing changes", () -> {
                    Counted m = filled.get();
                    m.explore(200);
                    return m;
                }, filled);
            }
        }
    }

    @Sentence(in = "2. RULES", says = "it ends ahead of one that there is no room for (all that would be new, with 64 EXPRESSIONS at most)")
    static void ends_ahead_of_one_without_room() {
        room("TURN", () -> {
            Counted m = Check.scans(15, 15);
            m.join(0, 0, 1);
            return m;
        }, 1);
        room("TURN that is there", () -> {
            Counted m = Check.scans(15, 15);
            m.join(0, 0, 1);
            m.join(0, 1, 0);
            return m;
        }, 0);
        room("LEAN", () -> {
            Counted m = Check.scans(15, 15, 15);
            m.join(0, 0, 1);
            m.join(1, 3, 2);
            Check.due("both TURNS", m.explore(2), 2);
            Check.firing(m, 4, 1, 3, 1);
            return m;
        }, 2);
        room("LEAN, with what is in [ ] there", () -> {
            Counted m = Check.scans(15, 15, 15);
            m.join(0, 0, 1);
            m.join(1, 3, 2);
            m.explore(2);
            m.join(1, 1, 2);
            Check.firing(m, 4, 1, 3, 1);
            return m;
        }, 1);
        room("PASS", () -> {
            Counted m = Check.scans(15);
            m.keep(4, 0);
            m.keep(6, 1);
            return m;
        }, 2);
        room("PASS, with what is in [ ] there", () -> {
            Counted m = Check.scans(15);
            m.keep(4, 0);
            m.keep(6, 1);
            m.keep(6, 0);
            return m;
        }, 1);
        room("PASS, with all there", () -> {
            Counted m = Check.scans(15);
            m.keep(4, 0);
            m.keep(6, 1);
            m.keep(4, m.keep(6, 0));
            return m;
        }, 0);
        room("SINK", () -> {
            Counted m = Check.scans(15, 15);
            m.half(0, 0, 1);
            m.keep(2, 2);
            return m;
        }, 2);
        room("UNDER", () -> {
            Counted m = Check.scans(15);
            m.keep(0, 0);
            m.tally(0, 1);
            return m;
        }, 2);
        room("SWAP", () -> {
            Counted m = Check.scans(15, 15);
            m.half(0, 0, 1);
            m.half(1, 2, 0);
            return m;
        }, 2);
        room("SWAP, with what is in [ ] there", () -> {
            Counted m = Check.scans(15, 15);
            m.half(0, 0, 1);
            m.half(1, 2, 0);
            m.half(1, 0, 0);
            return m;
        }, 1);
        room("ONCE", () -> {
            Counted m = Check.scans(15);
            m.keep(0, 0);
            m.keep(0, 1);
            return m;
        }, 0);
    }

    @Sentence(in = "2. RULES", says = "To explore is to fire the NEXT one again and again")
    static void ends_though_others_have_room() {
        // The NEXT one is a PASS of two new ones; a ONCE of greater e, for which there is room, is not fired.
        Counted m = Check.scans(15);
        m.keep(0, 0);
        m.keep(2, 1);
        m.tally(0, 0);
        m.tally(0, 3);
        Check.fill(m, 63);
        Check.firing(m, 2, 3, 1, 0);
        Check.due("explore", m.explore(200), 0);
        Check.due("FIRINGS", m.status(4), 0);
        // Fired as long as there is room: 62, then 64.
        Counted some = Check.scans(15);
        some.keep(0, 0);
        some.keep(2, 1);
        some.keep(4, 1);
        Check.fill(some, 61);
        Check.firing(some, 2, 3, 1, 1);
        Check.due("explore", some.explore(2), 1);
        Check.due("EXPRESSIONS", some.status(1), 63);
        Check.firing(some, 3, 3, 1, 0);
    }

    // ---- promise 23

    @Sentence(in = "Promise 23", says = "n times (1 to 200)")
    static void explore_1_to_200_times() {
        Check.edges("explore", Check::busy, 1, 200, (m, n) -> m.explore(n), -6);
        Check.refused("explore(0) of none", Counted::new, m -> m.explore(0), -6);
        Check.taken("explore(200) of none", Counted::new, m -> m.explore(200), 0);
    }

    /** A GROUP of a SCAN, four JOINS, four HALVES and eight KEEPS of itself: 164 FIRINGS, and nothing new by any. */
    private static void closed(Counted m, int t) {
        m.table(10, 15, NONE, 4);
        int g = m.scan(t);
        for (int c = 0; c < 4; c++) {
            m.same(g, m.join(c, g, g));
            m.same(g, m.half(c, g, g));
        }
        for (int p = 0; p < 8; p++) {
            m.same(g, m.keep(p, g));
        }
    }

    @Sentence(in = "Promise 23", says = "or as often as can be: how many were. -6.")
    static void explore_as_often_as_can_be() {
        Counted m = new Counted();
        closed(m, 0);
        closed(m, 1);
        int expressions = m.status(1);
        Check.due("explore", m.explore(1), 1);
        Check.due("explore", m.explore(2), 2);
        Check.due("FIRINGS", m.status(4), 3);
        Check.due("explore", m.explore(199), 199);
        Check.due("explore the rest", m.explore(200), 328 - 202);
        Check.due("explore of none", m.explore(200), 0);
        Check.due("nothing is new", m.status(1), expressions);
        int[] fired = {8, 32, 128, 112, 16, 0, 32};
        for (int rule = 0; rule < 7; rule++) {
            Check.due("fired(" + rule + ")", m.fired(rule), fired[rule]);
        }
        Check.due("FIRINGS", m.status(4), 328);
        Counted all = new Counted();
        closed(all, 0);
        closed(all, 1);
        Check.due("explore", all.explore(200), 200);
        Check.due("explore", all.explore(128), 128);
        noFiring(all);
        Counted less = new Counted();
        closed(less, 0);
        Check.due("explore one less", less.explore(163), 163);
        Check.due("explore the last", less.explore(200), 1);
    }

    // ---- promise 24

    @Sentence(in = "Promise 24", says = "-5 another what.")
    static void next_of_another_what() {
        Check.edges("next", Check::busy, 0, 3, (m, what) -> m.next(what), -5);
        Check.edges("next of none", Counted::new, 0, 3, (m, what) -> m.next(what), -5);
    }

    @Sentence(in = "Promise 24", says = "NONE: there is none.")
    static void next_of_none() {
        for (int what = 0; what < 4; what++) {
            int one = what;
            Check.taken("next of none", Counted::new, m -> m.next(one), NONE);
            Check.taken("next of none", Check::scanned, m -> m.next(one), NONE);
            Check.alike("next changes nothing", () -> {
                Counted m = Check.busy();
                m.next(one);
                return m;
            }, Check::busy);
        }
    }

    // ---- promise 25

    @Sentence(in = "Promise 25", says = "-5 no such RULE.")
    static void fired_of_no_rule() {
        Check.edges("fired", Check::busy, 0, 6, (m, rule) -> m.fired(rule), -5);
    }

    @Sentence(in = "Promise 25", says = "How many were FIRED by a RULE.")
    static void fired_of_each_rule() {
        Counted m = new Counted();
        for (int rule = 0; rule < 7; rule++) {
            Check.due("fired(" + rule + ") at first", m.fired(rule), 0);
        }
        Counted halves = Check.scans(15);
        halves.half(0, 0, 0);
        halves.half(0, 1, 0);
        Check.due("explore", halves.explore(200) > 0, true);
        for (int rule = 0; rule < 7; rule++) {
            Check.due("fired(" + rule + ")", halves.fired(rule) > 0, rule == 6);
        }
        Check.due("FIRINGS", halves.status(4), halves.fired(6));
    }
}
