/**
 * A PlanMemo whose calls are counted. The document tells nothing of what comes behind an object's
 * 512th call, so a test that goes on there would ask for what is free.
 */
final class Counted {
    static final int MOST_CALLS = 512;
    static final int NONE = PlanMemo.NONE;

    private final PlanMemo memo = new PlanMemo();
    private int calls = 0;

    int calls() {
        return calls;
    }

    int callsLeft() {
        return MOST_CALLS - calls;
    }

    private PlanMemo counted() {
        calls++;
        if (calls > MOST_CALLS) {
            throw new IllegalStateException("a test calls an object more than 512 times");
        }
        return memo;
    }

    /** A new ROW with these letters in a SHELF. */
    void text(int s, int sort, String letters) {
        row(s, sort, letters.length());
        for (int i = 0; i < letters.length(); i++) {
            set(s, i, letters.charAt(i));
        }
    }

    /** What read() answers to a TEXT that is put into SHELF 7. */
    int read(String letters) {
        text(7, 0, letters);
        return read(7);
    }

    /** The first elements of a ROW as letters. */
    String letters(int s, int n) {
        StringBuilder text = new StringBuilder();
        for (int i = 0; i < n; i++) {
            text.append((char) element(s, i));
        }
        return text.toString();
    }

    /** How many REFUSALS of a number (-1 to -7, given without sign) there were. */
    int refusals(int number) {
        return status(10 + number);
    }

    int row(int s, int sort, int n) {
        return counted().row(s, sort, n);
    }

    int set(int s, int i, long v) {
        return counted().set(s, i, v);
    }

    int copy(int p, int q, int i, int j, int n) {
        return counted().copy(p, q, i, j, n);
    }

    long element(int s, int i) {
        return counted().element(s, i);
    }

    int show(int s, int e) {
        return counted().show(s, e);
    }

    int holds(int s) {
        return counted().holds(s);
    }

    int says(int s, int kind) {
        return counted().says(s, kind);
    }

    int table(int rows, int columns, int order, int place) {
        return counted().table(rows, columns, order, place);
    }

    int tableOf(int t, int what) {
        return counted().tableOf(t, what);
    }

    int distinct(int c, int v) {
        return counted().distinct(c, v);
    }

    int scan(int t) {
        return counted().scan(t);
    }

    int keep(int p, int x) {
        return counted().keep(p, x);
    }

    int tally(int c, int x) {
        return counted().tally(c, x);
    }

    int join(int c, int x, int y) {
        return counted().join(c, x, y);
    }

    int half(int c, int x, int y) {
        return counted().half(c, x, y);
    }

    int read(int s) {
        return counted().read(s);
    }

    int fault() {
        return counted().fault();
    }

    int same(int g, int h) {
        return counted().same(g, h);
    }

    int groupOf(int g) {
        return counted().groupOf(g);
    }

    int group(int g, int what) {
        return counted().group(g, what);
    }

    int expression(int e, int what) {
        return counted().expression(e, what);
    }

    int explore(int n) {
        return counted().explore(n);
    }

    int next(int what) {
        return counted().next(what);
    }

    int fired(int rule) {
        return counted().fired(rule);
    }

    int allow(int kind, boolean is) {
        return counted().allow(kind, is);
    }

    long cost(int g, int order, int place) {
        return counted().cost(g, order, place);
    }

    long costBy(int e, int order, int place) {
        return counted().costBy(e, order, place);
    }

    int demands(int g, int order, int place) {
        return counted().demands(g, order, place);
    }

    int within(int g, int order, int place) {
        return counted().within(g, order, place);
    }

    int where(int g, int order) {
        return counted().where(g, order);
    }

    long worth(int g, int order, int place, int kind) {
        return counted().worth(g, order, place, kind);
    }

    int plan(int g, int order, int place) {
        return counted().plan(g, order, place);
    }

    int planAt(int i, int what) {
        return counted().planAt(i, what);
    }

    long planCost(int i) {
        return counted().planCost(i);
    }

    int spell(int s) {
        return counted().spell(s);
    }

    int trees(int g, int d) {
        return counted().trees(g, d);
    }

    long price(int kind, int a, int b, int r) {
        return counted().price(kind, a, b, r);
    }

    int trace(int i) {
        return counted().trace(i);
    }

    int deal(int n) {
        return counted().deal(n);
    }

    int seed(int v) {
        return counted().seed(v);
    }

    int image() {
        return counted().image();
    }

    int restore() {
        return counted().restore();
    }

    int status(int what) {
        return counted().status(what);
    }
}
