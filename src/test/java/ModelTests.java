import java.util.ArrayList;
import java.util.Arrays;
import java.util.HashMap;
import java.util.HashSet;
import java.util.LinkedHashSet;
import java.util.List;
import java.util.Map;
import java.util.Random;
import java.util.Set;

/**
 * Runs of calls by draws, on the program and on a model of the document that is written to be plain
 * and not to be quick: every answer has to be the same.
 */
public final class ModelTests {
    private static final int NONE = -1;
    private static final int EYES = 4;

    // ---- the model's WAYS: BODIES as methods that the language itself chooses

    private static class Way {
        final List<Integer> trace = new ArrayList<>();
        final long a;
        final long b;
        final long r;

        Way(long a, long b, long r) {
            this.a = a;
            this.b = b;
            this.r = r;
        }

        long reads() {
            trace.add(10);
            return a;
        }

        long works() {
            trace.add(11);
            return 0;
        }

        long price() {
            trace.add(12);
            long reads = reads();
            return reads + works();
        }
    }

    private static class Pair extends Way {
        Pair(long a, long b, long r) {
            super(a, b, r);
        }

        @Override long reads() {
            trace.add(30);
            return super.reads() + b;
        }

        @Override long works() {
            trace.add(31);
            return super.works() + r;
        }
    }

    private static final class Hash extends Pair {
        Hash(long a, long b, long r) {
            super(a, b, r);
        }

        @Override long works() {
            trace.add(40);
            return super.works() + b;
        }
    }

    private static final class Merge extends Pair {
        Merge(long a, long b, long r) {
            super(a, b, r);
        }

        @Override long reads() {
            trace.add(50);
            return super.reads() + r;
        }
    }

    private static final class Loop extends Pair {
        Loop(long a, long b, long r) {
            super(a, b, r);
        }

        @Override long works() {
            trace.add(60);
            return super.works() + a * b;
        }
    }

    private static class Sum extends Way {
        Sum(long a, long b, long r) {
            super(a, b, r);
        }

        @Override long works() {
            trace.add(70);
            return super.works() + r;
        }
    }

    private static final class Heap extends Sum {
        Heap(long a, long b, long r) {
            super(a, b, r);
        }

        @Override long reads() {
            trace.add(80);
            return super.reads() * 2;
        }
    }

    private static final class Sort extends Way {
        Sort(long a, long b, long r) {
            super(a, b, r);
        }

        @Override long works() {
            trace.add(100);
            return super.works() + a * (a == 0 ? 0 : Long.toBinaryString(a).length());
        }
    }

    private static final class Ship extends Way {
        Ship(long a, long b, long r) {
            super(a, b, r);
        }

        @Override long price() {
            trace.add(110);
            return super.price() * 3;
        }
    }

    private static Way wayOf(int kind, long a, long b, long r) {
        switch (kind) {
            case 3: return new Pair(a, b, r);
            case 4: return new Hash(a, b, r);
            case 5: return new Merge(a, b, r);
            case 6: return new Loop(a, b, r);
            case 7: case 9: return new Sum(a, b, r);
            case 8: return new Heap(a, b, r);
            case 10: return new Sort(a, b, r);
            case 11: return new Ship(a, b, r);
            default: return new Way(a, b, r);
        }
    }

    // ---- the model's state

    private record Table(int rows, int columns, int order, int place) { }

    private record Demand(int g, int order, int place) { }

    private record Offer(int kind, int e, int at, List<Demand> inputs, long price) { }

    private record Node(Offer offer, Demand demand, long cost, List<Node> inputs, int own, boolean ofHalf) {
        int size() {
            int size = 1;
            for (Node n : inputs) {
                size += n.size();
            }
            return size;
        }
    }

    private static final class Expression implements Cloneable {
        int kind;
        int own;
        int x;
        int y;
        int g;

        Expression copy() {
            Expression c = new Expression();
            c.kind = kind;
            c.own = own;
            c.x = x;
            c.y = y;
            c.g = g;
            return c;
        }
    }

    private static final class State {
        List<Table> tables = new ArrayList<>();
        int[] distinct = {100, 100, 100, 100};
        List<Expression> all = new ArrayList<>();
        List<Integer> into = new ArrayList<>();
        Set<String> fired = new HashSet<>();
        int[] firedBy = new int[7];
        int allowed = 4095;
        int seed = 1;

        State copy() {
            State s = new State();
            s.tables = new ArrayList<>(tables);
            s.distinct = distinct.clone();
            for (Expression e : all) {
                s.all.add(e.copy());
            }
            s.into = new ArrayList<>(into);
            s.fired = new HashSet<>(fired);
            s.firedBy = firedBy.clone();
            s.allowed = allowed;
            s.seed = seed;
            return s;
        }
    }

    private static final class Fault extends RuntimeException {
        private static final long serialVersionUID = 1;
        final int place;

        Fault(int place) {
            this.place = place;
        }
    }

    private static final class Model {
        static final long MOST = 1_000_000_000_000L;
        static final Set<Integer> OWN_KINDS = Set.of(1, 2, 4, 5, 6, 8, 9, 10, 11);
        State s = new State();
        State image;
        Object[] shelves = new Object[8];
        int[] sorts = new int[8];
        int[] refusals = new int[8];
        int fault = NONE;
        List<Integer> trace = new ArrayList<>();
        List<Node> plan = new ArrayList<>();
        Map<Demand, Long> known = new HashMap<>();
        Map<Demand, List<Offer>> offered = new HashMap<>();

        int no(int number) {
            refusals[number]++;
            return -number;
        }

        long far(int number) {
            refusals[number]++;
            return -10 - number;
        }

        static boolean has(int columns, int c) {
            return c >= 0 && c < 4 && (columns & 1 << c) != 0;
        }

        boolean shelf(int i) {
            return i >= 0 && i < 8;
        }

        boolean group(int g) {
            return g >= 0 && g < s.into.size();
        }

        // -- rows

        int row(int i, int sort, int n) {
            if (!shelf(i)) return no(1);
            if (n < 0) return no(4);
            if (sort < 0 || sort > 3) return no(6);
            if (n > 160) return no(7);
            shelves[i] = new long[n];
            sorts[i] = sort;
            return 1;
        }

        int rowIn(int i) {
            if (!shelf(i)) return 1;
            if (shelves[i] instanceof Integer) return 2;
            return shelves[i] == null ? 3 : 0;
        }

        int set(int i, int k, long v) {
            int refusal = rowIn(i);
            if (refusal != 0) return no(refusal);
            long[] row = (long[]) shelves[i];
            if (k < 0 || k >= row.length) return no(5);
            int bits = new int[] {56, 48, 32, 0}[sorts[i]];
            row[k] = v << bits >> bits;
            return 1;
        }

        int copy(int p, int q, int i, int j, int n) {
            if (!shelf(p) || !shelf(q)) return no(1);
            if (shelves[p] instanceof Integer || shelves[q] instanceof Integer) return no(2);
            if (shelves[p] != null && shelves[q] != null && sorts[p] != sorts[q]) return no(2);
            if (shelves[p] == null || shelves[q] == null) return no(3);
            if (n < 0) return no(4);
            long[] from = ((long[]) shelves[p]).clone();
            long[] to = (long[]) shelves[q];
            if (i < 0 || j < 0 || (long) i + n > from.length || (long) j + n > to.length) return no(5);
            for (int k = 0; k < n; k++) to[j + k] = from[i + k];
            return 1;
        }

        long element(int i, int k) {
            if (!shelf(i) || !(shelves[i] instanceof long[])) return 0;
            long[] row = (long[]) shelves[i];
            return k < 0 || k >= row.length ? 0 : row[k];
        }

        int show(int i, int e) {
            if (!shelf(i) || e < -1 || e >= s.all.size()) return no(1);
            shelves[i] = e == NONE ? null : (Object) e;
            return e == NONE ? 0 : 1;
        }

        int holds(int i) {
            if (!shelf(i) || shelves[i] == null) return NONE;
            return shelves[i] instanceof Integer ? (Integer) shelves[i] : 100 + sorts[i];
        }

        int says(int i, int kind) {
            if (!shelf(i) || kind < 0 || kind > 6) return no(1);
            if (shelves[i] instanceof long[]) return no(2);
            if (shelves[i] == null) return no(3);
            Expression e = s.all.get((Integer) shelves[i]);
            Map<Integer, Set<Integer>> isA = Map.of(1, Set.of(0, 1), 3, Set.of(0, 2, 3), 4, Set.of(0, 2, 4),
                5, Set.of(0, 5), 6, Set.of(0, 5, 6));
            if (!isA.get(e.kind).contains(kind)) return no(2);
            if (kind == 0) return e.g == NONE ? 99 : e.g;
            if (kind == 2) return e.g == NONE ? 99 : e.x;
            return kind == 6 ? 10 + e.own : e.own;
        }

        // -- tables and telling

        int table(int rows, int columns, int order, int place) {
            if (rows < 1 || rows > 1_000_000 || columns < 1 || columns > 15) return no(6);
            if (order != NONE && !has(columns, order)) return no(6);
            if (place != 4 && !has(columns, place)) return no(6);
            if (s.tables.size() == 8) return no(7);
            s.tables.add(new Table(rows, columns, order, place));
            return s.tables.size() - 1;
        }

        int tableOf(int t, int what) {
            if (t < 0 || t >= s.tables.size() || what < 0 || what > 3) return no(5);
            Table table = s.tables.get(t);
            return new int[] {table.rows, table.columns, table.order, table.place}[what];
        }

        int distinct(int c, int v) {
            if (c < 0 || c > 3) return no(1);
            if (v < 1 || v > 1_000_000) return no(6);
            int was = s.distinct[c];
            s.distinct[c] = v;
            return was;
        }

        int columns(int g) {
            for (Expression e : s.all) {
                if (e.g == g) {
                    return columnsBy(e.kind, e.own, e.x, e.y);
                }
            }
            throw new IllegalStateException("a GROUP of nothing");
        }

        int columnsBy(int kind, int own, int x, int y) {
            if (kind == 1) return s.tables.get(own).columns;
            if (kind == 4) return 1 << own;
            return kind == 5 ? columns(x) | columns(y) : columns(x);
        }

        boolean may(int kind, int own, int x, int y) {
            if (kind == 3) return has(columns(x), own / 2);
            if (kind == 4) return has(columns(x), own);
            return has(columns(x), own) && has(columns(y), own);
        }

        Expression alike(int kind, int own, int x, int y) {
            for (Expression e : s.all) {
                if (e.g != NONE && e.kind == kind && e.own == own && e.x == x && e.y == y) return e;
            }
            return null;
        }

        int tell(int kind, int own, int x, int y) {
            Expression there = alike(kind, own, x, y);
            if (there != null) return there.g;
            if (s.all.size() == 64) return NONE;
            s.into.add(s.into.size());
            add(kind, own, x, y, s.into.size() - 1);
            return s.into.size() - 1;
        }

        void add(int kind, int own, int x, int y, int g) {
            Expression e = new Expression();
            e.kind = kind;
            e.own = own;
            e.x = x;
            e.y = y;
            e.g = g;
            s.all.add(e);
        }

        int told(int kind, int own, int x, int y) {
            int g = tell(kind, own, x, y);
            return g == NONE ? no(7) : g;
        }

        int scan(int t) {
            return t < 0 || t >= s.tables.size() ? no(1) : told(1, t, NONE, NONE);
        }

        int keep(int p, int x) {
            if (!group(x)) return no(1);
            if (p < 0 || p > 7 || !may(3, p, s.into.get(x), NONE)) return no(6);
            return told(3, p, s.into.get(x), NONE);
        }

        int tally(int c, int x) {
            if (!group(x) || c < 0 || c > 3) return no(1);
            if (!may(4, c, s.into.get(x), NONE)) return no(6);
            return told(4, c, s.into.get(x), NONE);
        }

        int pair(int kind, int c, int x, int y) {
            if (!group(x) || !group(y) || c < 0 || c > 3) return no(1);
            if (!may(kind, c, s.into.get(x), s.into.get(y))) return no(6);
            return told(kind, c, s.into.get(x), s.into.get(y));
        }

        // -- texts

        private int[] letters;
        private int at;

        int letter() {
            return at < letters.length ? letters[at] : NONE;
        }

        void take(String word) {
            for (char c : word.toCharArray()) {
                if (letter() != c) throw new Fault(at);
                at++;
            }
        }

        int digit(int below) {
            int d = letter() < '0' || letter() > '9' ? 99 : letter() - '0';
            if (d >= below) throw new Fault(at);
            at++;
            return d;
        }

        int read(int i) {
            int refusal = rowIn(i);
            if (refusal != 0) return no(refusal);
            long[] row = (long[]) shelves[i];
            letters = new int[row.length];
            for (int k = 0; k < row.length; k++) letters[k] = (int) row[k];
            at = 0;
            State before = s.copy();
            fault = NONE;
            int g;
            try {
                g = parse();
                if (at != letters.length) throw new Fault(at);
            } catch (Fault f) {
                s = before;
                fault = f.place;
                return no(6);
            }
            // Parsed without a bound on EXPRESSIONS: what is too much goes as a whole.
            if (s.all.size() > 64) {
                s = before;
                return no(7);
            }
            return g;
        }

        int parse() {
            int from = at;
            int c = letter();
            int kind = c == 's' ? 1 : c == 'k' ? 3 : c == 't' ? 4 : c == 'j' ? 5 : c == 'h' ? 6 : 0;
            if (kind == 0) throw new Fault(at);
            take(new String[] {"", "scan ", "", "keep ", "tally ", "join ", "half "}[kind]);
            int own = digit(kind == 1 ? s.tables.size() : kind == 3 ? 8 : 4);
            int x = NONE;
            int y = NONE;
            if (kind != 1) {
                take("(");
                x = parse();
                if (kind > 4) {
                    take(",");
                    y = parse();
                }
                take(")");
                if (!may(kind, own, x, y)) throw new Fault(from);
            }
            Expression there = alike(kind, own, x, y);
            if (there != null) return there.g;
            s.into.add(s.into.size());
            add(kind, own, x, y, s.into.size() - 1);
            return s.into.size() - 1;
        }

        // -- merging

        void merge(int g, int h) {
            int low = Math.min(g, h);
            int high = Math.max(g, h);
            if (low == high) return;
            for (Expression e : s.all) {
                if (e.g == high) e.g = low;
                if (e.x == high) e.x = low;
                if (e.y == high) e.y = low;
            }
            for (int i = 0; i < s.into.size(); i++) {
                if (s.into.get(i) == high) s.into.set(i, low);
            }
            for (int i = 0; i < s.all.size(); i++) {
                for (int k = s.all.size() - 1; k > i; k--) {
                    Expression a = s.all.get(i);
                    Expression b = s.all.get(k);
                    if (a.g != NONE && b.g != NONE && a.kind == b.kind && a.own == b.own && a.x == b.x && a.y == b.y) {
                        int other = b.g;
                        b.g = NONE;
                        b.x = NONE;
                        b.y = NONE;
                        merge(a.g, other);
                    }
                }
            }
        }

        int same(int g, int h) {
            if (!group(g) || !group(h)) return no(1);
            if (columns(s.into.get(g)) != columns(s.into.get(h))) return no(6);
            merge(s.into.get(g), s.into.get(h));
            return s.into.get(g);
        }

        int groupOf(int g) {
            return group(g) ? s.into.get(g) : no(1);
        }

        long rows(int g) {
            for (Expression e : s.all) {
                if (e.g == g) return Math.max(1, rowsOf(e));
            }
            return 0;
        }

        long rowsOf(Expression e) {
            if (e.kind == 1) return s.tables.get(e.own).rows;
            long a = rows(e.x);
            if (e.kind == 3) return e.own % 2 == 0 ? a / 10 : a / 2;
            if (e.kind == 4) return Math.min(a, s.distinct[e.own]);
            long joined = Math.min(1_000_000, Math.max(1, a * rows(e.y) / s.distinct[e.own]));
            return e.kind == 5 ? joined : Math.min(a, joined);
        }

        int group(int g, int what) {
            if (!group(g) || what < 0 || what > 4) return no(5);
            int root = s.into.get(g);
            int members = 0;
            int users = 0;
            int least = NONE;
            for (int i = s.all.size() - 1; i >= 0; i--) {
                Expression e = s.all.get(i);
                if (e.g == root) {
                    members++;
                    least = i;
                }
                if (e.x == root || e.y == root) users++;
            }
            return new int[] {members, (int) rows(root), columns(root), least, users}[what];
        }

        int expression(int i, int what) {
            if (i < 0 || i >= s.all.size() || what < 0 || what > 5) return no(5);
            Expression e = s.all.get(i);
            return new int[] {e.kind, e.own, e.x, e.y, e.g, e.g == NONE ? 1 : 0}[what];
        }

        // -- rules

        /** e, RULE, f and what comes of it: {e, rule, f, kind, own, x, y, kind, own, x, y}; -2: the first's GROUP. */
        int[] nextFiring() {
            for (int i = 0; i < s.all.size(); i++) {
                Expression e = s.all.get(i);
                if (e.g == NONE) continue;
                for (int rule = 0; rule < 7; rule++) {
                    for (int k = rule == 0 ? -1 : 0; k < (rule == 0 ? 0 : s.all.size()); k++) {
                        if (s.fired.contains(i + "/" + rule + "/" + k)) continue;
                        int[] shape = rule == 0
                            ? e.kind == 5 ? new int[] {0, 0, 0, 0, 5, e.own, e.y, e.x} : null
                            : s.all.get(k).g != e.x || e.x == NONE ? null : shape(e, rule, s.all.get(k));
                        if (shape != null) {
                            int[] all = new int[11];
                            all[0] = i;
                            all[1] = rule;
                            all[2] = k;
                            System.arraycopy(shape, 0, all, 3, 8);
                            return all;
                        }
                    }
                }
            }
            return null;
        }

        int[] shape(Expression e, int rule, Expression f) {
            if (rule == 1 && e.kind == 5 && f.kind == 5 && has(columns(f.y), e.own)) {
                return new int[] {5, e.own, f.y, e.y, 5, f.own, f.x, -2};
            }
            if (rule == 2 && e.kind == 3 && f.kind >= 5 && has(columns(f.x), e.own / 2)) {
                return new int[] {3, e.own, f.x, NONE, f.kind, f.own, -2, f.y};
            }
            if (rule == 3 && e.kind == 3 && f.kind == 3 && f.own != e.own) {
                return new int[] {3, e.own, f.x, NONE, 3, f.own, -2, NONE};
            }
            if (rule == 4 && (e.kind == 3 || e.kind == 4) && f.kind == e.kind && f.own == e.own) {
                return new int[8];
            }
            if (rule == 5 && e.kind == 4 && f.kind == 3 && f.own / 2 == e.own) {
                return new int[] {4, e.own, f.x, NONE, 3, f.own, -2, NONE};
            }
            if (rule == 6 && e.kind == 6 && f.kind == 6) {
                return new int[] {6, e.own, f.x, e.y, 6, f.own, -2, f.y};
            }
            return null;
        }

        /** Fires on a copy that has room without end, to see how many are new then. */
        boolean roomFor(int[] n) {
            State before = s;
            s = s.copy();
            fire(n);
            boolean room = s.all.size() <= 64;
            s = before;
            return room;
        }

        void fire(int[] n) {
            s.fired.add(n[0] + "/" + n[1] + "/" + n[2]);
            s.firedBy[n[1]]++;
            Expression e = s.all.get(n[0]);
            if (n[1] == 4) {
                merge(e.g, s.all.get(n[2]).g);
                return;
            }
            int inner = NONE;
            if (n[3] != 0) {
                Expression there = alike(n[3], n[4], n[5], n[6]);
                if (there == null) {
                    s.into.add(s.into.size());
                    add(n[3], n[4], n[5], n[6], s.into.size() - 1);
                    inner = s.into.size() - 1;
                } else {
                    inner = there.g;
                }
            }
            int x = n[9] == -2 ? inner : n[9];
            int y = n[10] == -2 ? inner : n[10];
            Expression there = alike(n[7], n[8], x, y);
            if (there == null) {
                add(n[7], n[8], x, y, e.g);
            } else {
                merge(there.g, e.g);
            }
        }

        int explore(int n) {
            if (n < 1 || n > 200) return no(6);
            int count = 0;
            while (count < n) {
                int[] next = nextFiring();
                if (next == null || !roomFor(next)) break;
                fire(next);
                count++;
            }
            return count;
        }

        int next(int what) {
            if (what < 0 || what > 3) return no(5);
            int[] next = nextFiring();
            if (next == null) return NONE;
            return what < 3 ? next[what] : roomFor(next) ? 1 : 0;
        }

        int fired(int rule) {
            return rule < 0 || rule > 6 ? no(5) : s.firedBy[rule];
        }

        // -- costs

        int allow(int kind, boolean is) {
            if (!OWN_KINDS.contains(kind)) return no(1);
            int was = (s.allowed & 1 << kind) != 0 ? 1 : 0;
            s.allowed = is ? s.allowed | 1 << kind : s.allowed & ~(1 << kind);
            return was;
        }

        void offer(List<Offer> to, int kind, int e, int at, Demand d, Demand... inputs) {
            if ((s.allowed & 1 << kind) == 0) return;
            long r = rows(d.g);
            long a = inputs.length == 0 || kind >= 10 ? r : rows(inputs[0].g);
            long b = inputs.length < 2 ? 0 : rows(inputs[1].g);
            to.add(new Offer(kind, e, at, List.of(inputs), wayOf(kind, a, b, r).price()));
        }

        List<Offer> offers(Demand d) {
            List<Offer> offers = offered.get(d);
            if (offers == null) {
                offers = offersNew(d);
                offered.put(d, offers);
            }
            return offers;
        }

        List<Offer> offersNew(Demand d) {
            List<Offer> to = new ArrayList<>();
            for (int i = 0; i < s.all.size(); i++) {
                Expression e = s.all.get(i);
                if (e.g != d.g) continue;
                if (e.kind == 1) {
                    Table t = s.tables.get(e.own);
                    if ((d.order == NONE || d.order == t.order) && (d.place == NONE || d.place == t.place)) {
                        offer(to, 1, i, NONE, d);
                    }
                } else if (e.kind == 3) {
                    offer(to, 2, i, NONE, d, new Demand(e.x, d.order, d.place));
                } else {
                    for (int kind = e.kind == 4 ? 8 : 4; kind <= (e.kind == 4 ? 9 : 6); kind++) {
                        for (int at : new int[] {e.own, 4}) {
                            if (d.place == NONE || d.place == at) {
                                offerAt(to, kind, i, at, d);
                            }
                        }
                    }
                }
            }
            int columns = columns(d.g);
            if (has(columns, d.order)) offer(to, 10, NONE, NONE, d, new Demand(d.g, NONE, d.place));
            if (d.order == NONE && (d.place == 4 || has(columns, d.place))) {
                offer(to, 11, NONE, NONE, d, new Demand(d.g, NONE, NONE));
            }
            return to;
        }

        void offerAt(List<Offer> to, int kind, int i, int at, Demand d) {
            Expression e = s.all.get(i);
            boolean ordered = d.order == NONE || d.order == e.own;
            if (kind == 4 && d.order == NONE) {
                offer(to, 4, i, at, d, new Demand(e.x, NONE, at), new Demand(e.y, NONE, at));
            } else if (kind == 5 && ordered) {
                offer(to, 5, i, at, d, new Demand(e.x, e.own, at), new Demand(e.y, e.own, at));
            } else if (kind == 6) {
                offer(to, 6, i, at, d, new Demand(e.x, d.order, at), new Demand(e.y, NONE, at));
            } else if (kind == 8 && d.order == NONE) {
                offer(to, 8, i, at, d, new Demand(e.x, NONE, at));
            } else if (kind == 9 && ordered) {
                offer(to, 9, i, at, d, new Demand(e.x, e.own, at));
            }
        }

        Set<Demand> demanded(Demand d) {
            Set<Demand> all = new LinkedHashSet<>();
            List<Demand> open = new ArrayList<>(List.of(d));
            all.add(d);
            while (!open.isEmpty()) {
                for (Offer o : offers(open.remove(0))) {
                    for (Demand input : o.inputs) {
                        if (all.add(input)) open.add(input);
                    }
                }
            }
            return all;
        }

        Long total(Offer o) {
            long sum = o.price;
            for (Demand input : o.inputs) {
                Long cost = known.get(input);
                if (cost == null) return null;
                sum += cost;
            }
            return sum > MOST ? null : sum;
        }

        /** Fills in what is known of all that is DEMANDED, the cheapest first. */
        Long find(Demand d) {
            known.clear();
            offered.clear();
            Set<Demand> all = demanded(d);
            while (true) {
                Demand best = null;
                long least = Long.MAX_VALUE;
                for (Demand one : all) {
                    if (known.containsKey(one)) continue;
                    for (Offer o : offers(one)) {
                        Long cost = total(o);
                        if (cost != null && cost < least) {
                            least = cost;
                            best = one;
                        }
                    }
                }
                if (best == null) return known.get(d);
                known.put(best, least);
            }
        }

        boolean order(int order) {
            return order >= -1 && order <= 3;
        }

        boolean place(int place) {
            return place >= -1 && place <= 4;
        }

        long cost(int g, int order, int place) {
            if (!group(g)) return far(1);
            if (!order(order) || !place(place)) return far(6);
            Long cost = find(new Demand(s.into.get(g), order, place));
            return cost == null ? NONE : cost;
        }

        long costBy(int e, int order, int place) {
            if (e < 0 || e >= s.all.size() || s.all.get(e).g == NONE) return far(1);
            if (!order(order) || !place(place)) return far(6);
            Demand d = new Demand(s.all.get(e).g, order, place);
            find(d);
            long least = Long.MAX_VALUE;
            for (Offer o : offers(d)) {
                Long cost = total(o);
                if (o.e == e && cost != null) least = Math.min(least, cost);
            }
            return least == Long.MAX_VALUE ? NONE : least;
        }

        int demands(int g, int order, int place) {
            if (!group(g)) return no(1);
            if (!order(order) || !place(place)) return no(6);
            offered.clear();
            return demanded(new Demand(s.into.get(g), order, place)).size();
        }

        int within(int g, int order, int place) {
            if (!group(g)) return no(1);
            if (!order(order) || !place(place)) return no(6);
            Long cost = find(new Demand(s.into.get(g), order, place));
            if (cost == null) return 0;
            int count = 0;
            for (long other : known.values()) {
                count += other <= cost ? 1 : 0;
            }
            return count;
        }

        int where(int g, int order) {
            if (!group(g)) return (int) far(1);
            if (!order(order)) return (int) far(6);
            int best = NONE;
            long least = Long.MAX_VALUE;
            for (int place = 0; place < 5; place++) {
                Long cost = find(new Demand(s.into.get(g), order, place));
                if (cost != null && cost < least) {
                    least = cost;
                    best = place;
                }
            }
            return best;
        }

        long worth(int g, int order, int place, int kind) {
            if (!group(g) || !OWN_KINDS.contains(kind)) return far(1);
            if (!order(order) || !place(place)) return far(6);
            Demand d = new Demand(s.into.get(g), order, place);
            Long now = find(d);
            int allowed = s.allowed;
            s.allowed &= ~(1 << kind);
            Long then = find(d);
            s.allowed = allowed;
            return now == null || then == null ? NONE : then - now;
        }

        Node node(Demand d) {
            for (Offer o : offers(d)) {
                Long cost = total(o);
                if (cost != null && cost.equals(known.get(d))) {
                    List<Node> inputs = new ArrayList<>();
                    for (Demand input : o.inputs) inputs.add(node(input));
                    int own = o.kind == 10 ? d.order : o.kind == 11 ? d.place : s.all.get(o.e).own;
                    return new Node(o, d, cost, inputs, own, o.e != NONE && s.all.get(o.e).kind == 6);
                }
            }
            throw new IllegalStateException("no WAY");
        }

        long nodes(Demand d, Map<Demand, Long> counted) {
            if (counted.containsKey(d)) return counted.get(d);
            long count = 1;
            for (Offer o : offers(d)) {
                Long cost = total(o);
                if (cost != null && cost.equals(known.get(d))) {
                    for (Demand input : o.inputs) count = Math.min(1000, count + nodes(input, counted));
                    break;
                }
            }
            counted.put(d, count);
            return count;
        }

        void flatten(Node n, List<Node> to) {
            to.add(n);
            for (Node input : n.inputs) flatten(input, to);
        }

        int plan(int g, int order, int place) {
            if (!group(g)) return no(1);
            if (!order(order) || !place(place)) return no(6);
            Demand d = new Demand(s.into.get(g), order, place);
            if (find(d) == null) return no(5);
            if (nodes(d, new HashMap<>()) > 120) return no(7);
            plan = new ArrayList<>();
            flatten(node(d), plan);
            return plan.size();
        }

        int planAt(int i, int what) {
            if (i < 0 || i >= plan.size() || what < 0 || what > 7) return no(5);
            Node n = plan.get(i);
            return new int[] {n.offer.kind, n.own, n.demand.g, n.demand.order, n.demand.place, n.offer.at, n.size(),
                n.ofHalf ? 1 : 0}[what];
        }

        long planCost(int i) {
            return i < 0 || i >= plan.size() ? no(5) : plan.get(i).cost;
        }

        String spelled(Node n) {
            String first = n.inputs.isEmpty() ? "" : spelled(n.inputs.get(0));
            switch (n.offer.kind) {
                case 1: return "scan " + n.own;
                case 2: return "keep " + n.own + "(" + first + ")";
                case 8: case 9: return "tally " + n.own + "(" + first + ")";
                case 10: case 11: return first;
                default:
                    return (n.ofHalf ? "half " : "join ") + n.own + "(" + first + "," + spelled(n.inputs.get(1)) + ")";
            }
        }

        int spell(int i) {
            int refusal = rowIn(i);
            if (refusal != 0) return no(refusal);
            if (plan.isEmpty()) return no(5);
            String text = spelled(plan.get(0));
            long[] row = (long[]) shelves[i];
            if (text.length() > row.length) return no(7);
            for (int k = 0; k < text.length(); k++) row[k] = text.charAt(k);
            return text.length();
        }

        long treesOf(int g, int d, Map<Integer, Long> counted) {
            if (d == 0) return 0;
            if (counted.containsKey(g * 100 + d)) return counted.get(g * 100 + d);
            long sum = 0;
            for (Expression e : s.all) {
                if (e.g != g) continue;
                long trees = e.kind == 1 ? 1 : treesOf(e.x, d - 1, counted);
                if (e.kind >= 5) trees = Math.min(1_000_000_000, trees * treesOf(e.y, d - 1, counted));
                sum = Math.min(1_000_000_000, sum + trees);
            }
            counted.put(g * 100 + d, sum);
            return sum;
        }

        int trees(int g, int d) {
            if (!group(g)) return no(1);
            if (d < 0 || d > 12) return no(6);
            return (int) treesOf(s.into.get(g), d, new HashMap<>());
        }

        long price(int kind, int a, int b, int r) {
            if (kind < 0 || kind > 11) return no(1);
            for (int n : new int[] {a, b, r}) {
                if (n < 0 || n > 1_000_000) return no(6);
            }
            Way way = wayOf(kind, a, b, r);
            long price = way.price();
            trace = way.trace;
            return price;
        }

        int trace(int i) {
            return i < 0 || i >= trace.size() || i >= 20 ? NONE : trace.get(i);
        }

        // -- the rest

        int draw(int n) {
            s.seed = s.seed * 1103515245 + 12345;
            return (s.seed >>> 16) % n;
        }

        int deal(int n) {
            if (s.into.isEmpty()) return no(5);
            if (n < 1 || n > 20) return no(6);
            int before = s.all.size();
            for (int i = 0; i < n; i++) {
                int c = draw(4);
                int x = s.into.get(draw(s.into.size()));
                int y = s.into.get(draw(s.into.size()));
                if (may(5, c, x, y)) tell(5, c, x, y);
            }
            return s.all.size() - before;
        }

        int seed(int v) {
            int was = s.seed;
            s.seed = v;
            return was;
        }

        int image() {
            image = s.copy();
            return s.all.size();
        }

        int restore() {
            if (image == null) return no(6);
            s = image.copy();
            for (int i = 0; i < 8; i++) {
                if (shelves[i] instanceof Integer && (Integer) shelves[i] >= s.all.size()) shelves[i] = null;
            }
            return s.all.size();
        }

        int status(int what) {
            if (what >= 11 && what <= 17) return refusals[what - 10];
            int gone = 0;
            for (Expression e : s.all) gone += e.g == NONE ? 1 : 0;
            switch (what) {
                case 0: return s.tables.size();
                case 1: return s.all.size();
                case 2: return new HashSet<>(s.into).size();
                case 3: return gone;
                case 4: return s.fired.size();
                case 5: return s.seed;
                case 6: return plan.size();
                case 7: return s.allowed;
                case 8: return trace.size();
                case 9: return s.into.size();
                default: return NONE;
            }
        }
    }

    // ---- runs by draws

    private final Random random;
    private final Counted x = new Counted();
    private final Model m = new Model();
    private final StringBuilder run = new StringBuilder();
    private boolean wrong = false;

    private ModelTests(long seed) {
        random = new Random(seed);
    }

    private void due(String call, long got, long want) {
        run.append(call).append(" -> ").append(got).append('\n');
        if (got != want && !wrong) {
            wrong = true;
            System.out.println(run + "due is " + want);
        }
    }

    /** A number from low to high; now and then one beside, or far off. */
    private int pick(int low, int high) {
        int kind = random.nextInt(60);
        if (kind == 0) return low - 1;
        if (kind == 1) return high + 1;
        if (kind == 2) return random.nextInt();
        return high < low ? low : low + random.nextInt(high - low + 1);
    }

    private int pickGroup() {
        return pick(0, m.s.into.size() - 1);
    }

    private int pickText(int i) {
        StringBuilder text = new StringBuilder();
        grow(text, random.nextInt(4));
        if (random.nextInt(4) == 0 && text.length() > 0) {
            int at = random.nextInt(text.length());
            switch (random.nextInt(3)) {
                case 0: text.deleteCharAt(at); break;
                case 1: text.setCharAt(at, "scankeptlyjoinhf 01234567(),".charAt(random.nextInt(28))); break;
                default: text.insert(at, "skjth 059(),".charAt(random.nextInt(12))); break;
            }
        }
        if (text.length() > 160) text.setLength(160);
        int sort = random.nextInt(4);
        due("row(" + i + ", " + sort + ", " + text.length() + ")", x.row(i, sort, text.length()),
            m.row(i, sort, text.length()));
        for (int k = 0; k < text.length(); k++) {
            due("set " + text.charAt(k), x.set(i, k, text.charAt(k)), m.set(i, k, text.charAt(k)));
        }
        return i;
    }

    private void grow(StringBuilder to, int depth) {
        int kind = depth == 0 ? 0 : random.nextInt(5);
        int tables = Math.max(1, m.s.tables.size());
        if (kind == 0) {
            to.append("scan ").append(random.nextInt(20) == 0 ? 9 : random.nextInt(tables));
            return;
        }
        to.append(new String[] {"keep ", "tally ", "join ", "half "}[kind - 1]);
        to.append(random.nextInt(kind == 1 ? 8 : 3)).append('(');
        grow(to, depth - 1);
        if (kind > 2) {
            to.append(',');
            grow(to, depth - 1);
        }
        to.append(')');
    }

    private void call(int kind) {
        int g = pickGroup();
        int h = pickGroup();
        int c = pick(0, 3);
        int p = pick(0, 7);
        int o = pick(-1, 3);
        int at = pick(-1, 4);
        int s = pick(0, 7);
        int e = pick(0, m.s.all.size() - 1);
        int n = pick(0, 9);
        String demand = "(" + g + ", " + o + ", " + at + ")";
        switch (kind) {
            case 0: {
                int rows = random.nextInt(3) == 0 ? pick(1, 1_000_000) : pick(1, 2000);
                int columns = random.nextInt(2) == 0 ? 15 : pick(1, 15);
                due("table(" + rows + ", " + columns + ", " + o + ", " + at + ")", x.table(rows, columns, o, at),
                    m.table(rows, columns, o, at));
                break;
            }
            case 1: due("scan(" + n + ")", x.scan(n % 4), m.scan(n % 4)); break;
            case 2: due("keep(" + p + ", " + g + ")", x.keep(p, g), m.keep(p, g)); break;
            case 3: due("tally(" + c + ", " + g + ")", x.tally(c, g), m.tally(c, g)); break;
            case 4: due("join(" + c + ", " + g + ", " + h + ")", x.join(c, g, h), m.pair(5, c, g, h)); break;
            case 5: due("half(" + c + ", " + g + ", " + h + ")", x.half(c, g, h), m.pair(6, c, g, h)); break;
            case 6: {
                int i = pickText(random.nextInt(8));
                due("read(" + i + ")", x.read(i), m.read(i));
                due("fault()", x.fault(), m.fault);
                break;
            }
            case 7: due("same(" + g + ", " + h + ")", x.same(g, h), m.same(g, h)); break;
            case 8: due("groupOf(" + g + ")", x.groupOf(g), m.groupOf(g)); break;
            case 9: due("group(" + g + ", " + n + ")", x.group(g, n), m.group(g, n)); break;
            case 10: due("expression(" + e + ", " + n + ")", x.expression(e, n), m.expression(e, n)); break;
            case 11: {
                int times = random.nextInt(6) == 0 ? pick(1, 200) : pick(1, 8);
                due("explore(" + times + ")", x.explore(times), m.explore(times));
                break;
            }
            case 12: due("next(" + n % 5 + ")", x.next(n % 5), m.next(n % 5)); break;
            case 13: due("fired(" + p + ")", x.fired(p), m.fired(p)); break;
            case 14: {
                int way = pick(0, 11);
                boolean is = random.nextInt(3) != 0;
                due("allow(" + way + ", " + is + ")", x.allow(way, is), m.allow(way, is));
                break;
            }
            case 15: due("cost" + demand, x.cost(g, o, at), m.cost(g, o, at)); break;
            case 16: due("costBy(" + e + ", " + o + ", " + at + ")", x.costBy(e, o, at), m.costBy(e, o, at)); break;
            case 17: due("demands" + demand, x.demands(g, o, at), m.demands(g, o, at)); break;
            case 18: due("within" + demand, x.within(g, o, at), m.within(g, o, at)); break;
            case 19: due("where(" + g + ", " + o + ")", x.where(g, o), m.where(g, o)); break;
            case 20: {
                int way = pick(0, 11);
                due("worth" + demand + way, x.worth(g, o, at, way), m.worth(g, o, at, way));
                break;
            }
            case 21: {
                due("plan" + demand, x.plan(g, o, at), m.plan(g, o, at));
                seeNode(random);
                break;
            }
            case 22: {
                due("row", x.row(s, 0, 10 * n), m.row(s, 0, 10 * n));
                due("spell(" + s + ")", x.spell(s), m.spell(s));
                break;
            }
            case 23: {
                int d = pick(0, 12);
                due("trees(" + g + ", " + d + ")", x.trees(g, d), m.trees(g, d));
                break;
            }
            case 24: {
                int way = pick(0, 11);
                int[] r = {pick(0, 1_000_000), pick(0, 1_000_000), pick(0, 50)};
                due("price", x.price(way, r[0], r[1], r[2]), m.price(way, r[0], r[1], r[2]));
                for (int i = 0; i < 8; i++) due("trace(" + i + ")", x.trace(i), m.trace(i));
                break;
            }
            case 25: due("deal(" + n + ")", x.deal(n), m.deal(n)); break;
            case 26: due("seed", x.seed(e * 7919), m.seed(e * 7919)); break;
            case 27: due("image()", x.image(), m.image()); break;
            case 28: due("restore()", x.restore(), m.restore()); break;
            case 29: {
                int v = random.nextInt(2) == 0 ? pick(1, 60) : pick(1, 1_000_000);
                due("distinct(" + c + ", " + v + ")", x.distinct(c, v), m.distinct(c, v));
                break;
            }
            case 30: due("show(" + s + ", " + e + ")", x.show(s, e), m.show(s, e)); break;
            case 31: due("says(" + s + ", " + p + ")", x.says(s, p), m.says(s, p)); break;
            case 32: due("holds(" + s + ")", x.holds(s), m.holds(s)); break;
            case 33: {
                int i = pick(0, 6);
                int j = pick(0, 6);
                int q = pick(0, 7);
                due("copy" + s + q, x.copy(s, q, i, j, n), m.copy(s, q, i, j, n));
                break;
            }
            case 34: {
                long v = random.nextLong();
                due("set(" + s + ", " + n + ", " + v + ")", x.set(s, n, v), m.set(s, n, v));
                due("element", x.element(s, n), m.element(s, n));
                break;
            }
            case 35: due("row(" + s + ", " + c + ", " + n + ")", x.row(s, c, n), m.row(s, c, n)); break;
            case 36: due("tableOf(" + n % 4 + ", " + p + ")", x.tableOf(n % 4, p), m.tableOf(n % 4, p)); break;
            default: due("read(" + s + ")", x.read(s), m.read(s)); break;
        }
    }

    private void seeNode(Random draws) {
        int i = draws.nextInt(m.plan.size() + 1);
        int what = draws.nextInt(9);
        due("planAt(" + i + ", " + what + ")", x.planAt(i, what), m.planAt(i, what));
        due("planCost(" + i + ")", x.planCost(i), m.planCost(i));
    }

    /** One more answer of what there is, by draws of their own. */
    private void see(Random draws) {
        int e = draws.nextInt(m.s.all.size() + 1);
        int g = draws.nextInt(m.s.into.size() + 1);
        int what = draws.nextInt(6);
        switch (draws.nextInt(8)) {
            case 0: case 1: case 2:
                due("expression(" + e + ", " + what + ")", x.expression(e, what), m.expression(e, what));
                break;
            case 3: case 4:
                due("group(" + g + ", " + what + ")", x.group(g, what), m.group(g, what));
                break;
            case 5:
                due("groupOf(" + g + ")", x.groupOf(g), m.groupOf(g));
                break;
            case 6: {
                int of = draws.nextInt(20) - 1;
                due("status(" + of + ")", x.status(of), m.status(of));
                break;
            }
            default: {
                int s = draws.nextInt(8);
                int i = draws.nextInt(16);
                due("holds(" + s + ")", x.holds(s), m.holds(s));
                due("element(" + s + ", " + i + ")", x.element(s, i), m.element(s, i));
                due("next(" + what + ")", x.next(what), m.next(what));
                seeNode(draws);
                break;
            }
        }
    }

    /** So many calls by draws, or some more, then the rest of the object's 512 to see what there is. */
    private boolean fits(int calls, int[] kinds, Random eyes) {
        for (int i = 0; i < 3; i++) call(0);
        while (x.calls() < calls && !wrong) {
            call(kinds[random.nextInt(kinds.length)]);
        }
        while (x.callsLeft() > 5 && !wrong) {
            see(eyes);
        }
        return !wrong;
    }

    public static void main(String[] args) {
        if (args.length == 0) {
            Deadline.begin();
        }
        int[] every = new int[38];
        for (int i = 0; i < every.length; i++) every[i] = i;
        // Telling, merging and rules alone, then with what they cost.
        int[] telling = {1, 1, 2, 2, 2, 3, 4, 4, 5, 5, 7, 11, 11, 12, 25, 6};
        int[] costing = {1, 1, 2, 3, 4, 4, 5, 5, 7, 11, 14, 15, 15, 16, 17, 18, 19, 20, 21, 22, 29, 23};
        int[][] mixes = {every, telling, costing};
        int runs = args.length > 0 ? Integer.parseInt(args[0]) : 90;
        int first = args.length > 1 ? Integer.parseInt(args[1]) : 0;
        for (int seed = first; seed < first + runs; seed++) {
            int[] kinds = mixes[seed % mixes.length];
            int calls = 60 + seed * 37 % 260;
            // The same calls again and again, so that all that there is then can be seen.
            for (int eyes = 0; eyes < EYES; eyes++) {
                if (!new ModelTests(seed).fits(calls, kinds, new Random(eyes))) {
                    System.out.println("run of seed " + seed + " is not as the model's, kinds " + Arrays.toString(kinds));
                    System.exit(1);
                }
            }
        }
        System.out.println(runs + " runs are as the model's");
    }
}
