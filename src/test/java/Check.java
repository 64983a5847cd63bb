import java.util.ArrayList;
import java.util.List;

/** What the tests of boundaries share: asking, edges of a range, calls that are refused. */
final class Check {
    static final int NONE = PlanMemo.NONE;
    /** What can be seen of an object is asked of several like it, as one takes 512 calls only. */
    private static final int PARTS = 6;
    private static final int WAY_KINDS = 12;

    private static int asked = 0;
    private static final int MOST_TOLD = 10;
    private static int wrong = 0;
    private static int wrongAhead = 0;

    private Check() {
    }

    /** Makes an object and brings it into a state, each time the same. */
    interface Make {
        Counted get();
    }

    interface Call {
        long on(Counted m);
    }

    interface CallWith {
        long on(Counted m, int v);
    }

    static int asked() {
        return asked;
    }

    static int wrong() {
        return wrong;
    }

    static void due(String call, long got, long want) {
        asked++;
        if (got != want) {
            wrong++;
            tell(call + " answered " + got + ", due is " + want);
        }
    }

    /** A test that fails tells of its first few wrong answers only. */
    private static void tell(String what) {
        if (wrong - wrongAhead > MOST_TOLD) {
            return;
        }
        StringBuilder plain = new StringBuilder();
        for (char c : what.toCharArray()) {
            plain.append(c >= 32 && c < 127 ? c : '?');
        }
        System.out.println(plain);
    }

    static void beginTest() {
        wrongAhead = wrong;
    }

    static void due(String call, boolean got, boolean want) {
        due(call, got ? 1 : 0, want ? 1 : 0);
    }

    static void due(String call, String got, String want) {
        asked++;
        if (!got.equals(want)) {
            wrong++;
            tell(call + " is '" + got + "', due is '" + want + "'");
        }
    }

    /** The call answers this REFUSAL, which is counted once; nothing else changes. */
    static void refused(String call, Make make, Call refusal, long answer) {
        int number = (int) (answer <= -11 ? -answer - 10 : -answer);
        for (int part = 0; part < PARTS; part++) {
            Counted asked = make.get();
            Counted left = make.get();
            due(call, refusal.on(asked), answer);
            for (int i = 1; i <= 7; i++) {
                due(call + ", status(" + (10 + i) + ") behind it", asked.refusals(i), left.refusals(i) + (i == number ? 1 : 0));
            }
            same(call + " changes nothing", asked, left, part);
        }
    }

    /** The call is not refused: it answers this, and no REFUSAL is counted. */
    static void taken(String call, Make make, Call taken, long answer) {
        Counted m = make.get();
        int[] before = refusals(m);
        due(call, taken.on(m), answer);
        int[] behind = refusals(m);
        for (int i = 1; i <= 7; i++) {
            due(call + ", status(" + (10 + i) + ") behind it", behind[i], before[i]);
        }
    }

    /** From low to high, both of them too, the call is not refused; beyond them it is, by this number. */
    static void edges(String call, Make make, int low, int high, CallWith with, long refusal) {
        inside(call, make, low, high, with);
        beyond(call, make, low, high, with, refusal);
    }

    /** At low and high, and just inside them, the call is not refused. */
    static void inside(String call, Make make, int low, int high, CallWith with) {
        for (int v : new int[] {low, low + 1, high - 1, high}) {
            if (v >= low && v <= high) {
                Counted m = make.get();
                int[] before = refusals(m);
                with.on(m, v);
                int[] behind = refusals(m);
                for (int i = 1; i <= 7; i++) {
                    due(call + " of " + v + ", status(" + (10 + i) + ") behind it", behind[i], before[i]);
                }
            }
        }
    }

    /** Below low and above high, near and far, the call is refused by this number. */
    static void beyond(String call, Make make, int low, int high, CallWith with, long refusal) {
        below(call, make, low, with, refusal);
        above(call, make, high, with, refusal);
    }

    static void below(String call, Make make, int low, CallWith with, long refusal) {
        for (int v : new int[] {low - 1, low - 2, low - 256, low - 65536, Integer.MIN_VALUE}) {
            refused(call + " of " + v, make, m -> with.on(m, v), refusal);
        }
    }

    static void above(String call, Make make, int high, CallWith with, long refusal) {
        for (int v : new int[] {high + 1, high + 2, high + 256, high + 65536, Integer.MIN_VALUE + high, Integer.MAX_VALUE}) {
            if (v > high) {
                refused(call + " of " + v, make, m -> with.on(m, v), refusal);
            }
        }
    }

    private static int[] refusals(Counted m) {
        int[] all = new int[8];
        for (int i = 1; i <= 7; i++) {
            all[i] = m.refusals(i);
        }
        return all;
    }

    private static void same(String what, Counted one, Counted other, int part) {
        List<Long> first = seen(one, part);
        List<Long> second = seen(other, part);
        due(what + " (" + part + ": as many)", first.size(), second.size());
        for (int i = 0; i < first.size() && i < second.size(); i++) {
            due(what + " (" + part + ": " + i + ")", first.get(i), second.get(i));
        }
    }

    /** Whether all that can be seen is the same of two ways to make an object. */
    static void alike(String what, Make one, Make other) {
        for (int part = 0; part < PARTS; part++) {
            same(what, one.get(), other.get(), part);
        }
    }

    private static List<Long> seen(Counted m, int part) {
        List<Long> seen = new ArrayList<>();
        switch (part) {
            case 0:
                seeRest(m, seen);
                break;
            case 1:
                seeExpressions(m, seen);
                break;
            case 2:
                seeGroups(m, seen);
                break;
            case 3:
                seeShelves(m, seen);
                break;
            case 4:
                seePlanAndCosts(m, seen);
                break;
            default:
                seen.add((long) m.restore());
                seeRest(m, seen);
                break;
        }
        return seen;
    }

    private static void seeRest(Counted m, List<Long> seen) {
        for (int what = 0; what <= 9; what++) {
            seen.add((long) m.status(what));
        }
        seen.add((long) m.fault());
        for (int i = 0; i < 8; i++) {
            seen.add((long) m.trace(i));
            seen.add((long) m.holds(i));
        }
        for (int what = 0; what < 4; what++) {
            seen.add((long) m.next(what));
            int was = m.distinct(what, 50);
            seen.add((long) was);
            m.distinct(what, was);
        }
        for (int rule = 0; rule < 7; rule++) {
            seen.add((long) m.fired(rule));
        }
        for (int t = 0; t < m.status(0); t++) {
            for (int what = 0; what < 4; what++) {
                seen.add((long) m.tableOf(t, what));
            }
        }
    }

    private static void seeExpressions(Counted m, List<Long> seen) {
        int n = m.status(1);
        for (int e = 0; e < n; e++) {
            for (int what = 1; what <= 4; what++) {
                seen.add((long) m.expression(e, what));
            }
        }
    }

    private static void seeGroups(Counted m, List<Long> seen) {
        int n = m.status(9);
        for (int g = 0; g < n; g++) {
            seen.add((long) m.groupOf(g));
            for (int what = 0; what <= 2; what++) {
                seen.add((long) m.group(g, what));
            }
        }
    }

    private static void seeShelves(Counted m, List<Long> seen) {
        for (int s = 0; s < 8; s++) {
            seen.add((long) m.holds(s));
            for (int i = 0; i < 10; i++) {
                seen.add(m.element(s, i));
            }
            for (int i = 150; i < 160; i++) {
                seen.add(m.element(s, i));
            }
        }
    }

    private static void seePlanAndCosts(Counted m, List<Long> seen) {
        for (int i = 0; i < 8; i++) {
            for (int what = 0; what < 8; what++) {
                seen.add((long) m.planAt(i, what));
            }
            seen.add(m.planCost(i));
        }
        for (int g = 0; g < 4; g++) {
            for (int order = NONE; order < 2; order++) {
                for (int place = NONE; place < 5; place++) {
                    seen.add(m.cost(g, order, place));
                }
            }
        }
    }

    /** From here on these KINDS of WAYS alone are ALLOWED. */
    static void only(Counted m, int... kinds) {
        for (int kind = 1; kind < WAY_KINDS; kind++) {
            boolean is = false;
            for (int one : kinds) {
                is |= one == kind;
            }
            if (kind != 3 && kind != 7) {
                m.allow(kind, is);
            }
        }
    }

    /** A TABLE of 1000 ROWS, all COLUMNS, no ORDER, all in one; its SCAN is GROUP 0. */
    static Counted scanned() {
        Counted m = new Counted();
        m.table(1000, 15, NONE, 4);
        m.scan(0);
        return m;
    }

    /** Has KEEPS of the last GROUP TOLD, each in a new GROUP, until there are so many EXPRESSIONS. */
    static void fill(Counted m, int expressions) {
        int there = m.status(1);
        for (int e = there; e < expressions; e++) {
            m.keep(e % 2, m.status(9) - 1);
        }
    }

    /** A scan and KEEPS in a chain: GROUPS and EXPRESSIONS have the same numbers. */
    static Counted chain(int expressions) {
        Counted m = scanned();
        for (int e = 1; e < expressions; e++) {
            m.keep(e % 2, e - 1);
        }
        return m;
    }

    /** Some of all there is: TABLES, SHELVES, EXPRESSIONS, FIRINGS, an IMAGE, a PLAN, a TRACE, a FAULT. */
    static Counted busy() {
        Counted m = new Counted();
        m.table(1000, 15, 0, 4);
        m.table(50, 6, NONE, 1);
        m.scan(0);
        m.scan(1);
        m.join(1, 0, 1);
        m.keep(2, 2);
        m.keep(2, 0);
        m.keep(3, 4);
        m.tally(1, 3);
        m.half(2, 1, 0);
        m.same(0, 4);
        m.explore(2);
        m.distinct(2, 77);
        m.allow(9, false);
        m.seed(5);
        m.image();
        m.allow(9, true);
        m.seed(11);
        m.tally(2, 1);
        m.plan(2, NONE, NONE);
        m.price(6, 3, 4, 5);
        m.row(0, 3, 160);
        m.set(0, 0, 7);
        m.set(0, 159, 8);
        m.row(1, 0, 3);
        m.set(1, 1, 's');
        m.show(2, 0);
        m.row(3, 3, 2);
        m.row(4, 1, 0);
        m.read(1);
        return m;
    }

    /** TABLES by their COLUMNS, each SCANNED: GROUPS 0, 1, .. */
    static Counted scans(int... columns) {
        Counted m = new Counted();
        for (int t = 0; t < columns.length; t++) {
            m.table(100, columns[t], NONE, 4);
            m.scan(t);
        }
        return m;
    }

    /** What expression() tells, from 0 on. */
    static void expression(Counted m, int e, int... facts) {
        for (int what = 0; what < facts.length; what++) {
            due("expression(" + e + ", " + what + ")", m.expression(e, what), facts[what]);
        }
    }

    /** The NEXT FIRING, and whether there is room for it. */
    static void firing(Counted m, int e, int rule, int f, int room) {
        String of = " of (" + e + ", " + rule + ", " + f + ")";
        due("next(0)" + of, m.next(0), e);
        due("next(1)" + of, m.next(1), rule);
        due("next(2)" + of, m.next(2), f);
        due("next(3)" + of, m.next(3), room);
    }
}
