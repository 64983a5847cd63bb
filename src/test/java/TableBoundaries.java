/** The boundaries of TABLES and COLUMNS: promises 9 to 11. */
final class TableBoundaries {
    private static final int NONE = PlanMemo.NONE;
    private static final int MILLION = 1_000_000;

    private TableBoundaries() {
    }

    private static Counted tables(int n) {
        Counted m = new Counted();
        for (int t = 0; t < n; t++) {
            m.table(10 + t, 15, NONE, 4);
        }
        return m;
    }

    private static void facts(Counted m, int t, int... facts) {
        for (int what = 0; what < 4; what++) {
            Check.due("tableOf(" + t + ", " + what + ")", m.tableOf(t, what), facts[what]);
        }
    }

    // ---- Terms

    @Sentence(in = "Terms", says = "COLUMNS 0 to 3;")
    static void columns_0_to_3() {
        for (int c = 0; c <= 3; c++) {
            Counted m = new Counted();
            Check.due("distinct", m.distinct(c, 5), 100);
            Check.due("table of one COLUMN", m.table(1, 1 << c, c, c), 0);
            facts(m, 0, 1, 1 << c, c, c);
            Check.due("tally", m.tally(c, m.scan(0)), 1);
        }
        Check.refused("COLUMN 4", () -> tables(1), m -> m.distinct(4, 5), -1);
        Check.refused("COLUMN -1", () -> tables(1), m -> m.distinct(-1, 5), -1);
        Check.refused("ORDER 4", () -> tables(1), m -> m.table(1, 15, 4, 0), -6);
    }

    @Sentence(in = "Terms", says = "a set of them is bits 0 to 3.")
    static void sets_are_bits_0_to_3() {
        for (int columns = 1; columns <= 15; columns++) {
            Counted m = new Counted();
            Check.due("table of " + columns, m.table(1, columns, NONE, 4), 0);
            Check.due("tableOf", m.tableOf(0, 1), columns);
            Check.due("COLUMNS of its SCAN", m.group(m.scan(0), 2), columns);
        }
        for (int columns : new int[] {16, 17, 31, 32, 1 << 8 | 1, 1 << 16 | 1, 1 << 31 | 1}) {
            Check.refused("table of " + columns, () -> tables(1), m -> m.table(1, columns, NONE, 4), -6);
        }
    }

    @Sentence(in = "Terms", says = "(1 to 1,000,000; 100 at first)")
    static void distinct_from_1_to_a_million() {
        for (int c = 0; c <= 3; c++) {
            Counted m = new Counted();
            Check.due("at first", m.distinct(c, 1), 100);
            Check.due("1", m.distinct(c, 2), 1);
            Check.due("2", m.distinct(c, 999_999), 2);
            Check.due("999,999", m.distinct(c, MILLION), 999_999);
            Check.due("a million and one", m.distinct(c, MILLION + 1), -6);
            Check.due("0", m.distinct(c, 0), -6);
            Check.due("a million", m.distinct(c, 7), MILLION);
            Check.due("the next COLUMN", m.distinct((c + 1) % 4, 1), 100);
        }
    }

    @Sentence(in = "Terms", says = "TABLES have numbers, from 0 on, 8 at most")
    static void eight_tables_at_most() {
        Counted m = new Counted();
        for (int t = 0; t < 8; t++) {
            Check.due("TABLES ahead of it", m.status(0), t);
            Check.due("table", m.table(10 + t, t + 1, NONE, 4), t);
        }
        Check.due("the ninth", m.table(10, 15, NONE, 4), -7);
        Check.due("the ninth again", m.table(10, 15, NONE, 4), -7);
        Check.due("TABLES", m.status(0), 8);
        Check.due("REFUSALS", m.refusals(7), 2);
        for (int t = 0; t < 8; t++) {
            facts(m, t, 10 + t, t + 1, NONE, 4);
        }
        Check.due("tableOf the ninth", m.tableOf(8, 0), -5);
        Check.due("scan of the eighth", m.scan(7), 0);
        Check.due("scan of the ninth", m.scan(8), -1);
    }

    @Sentence(in = "Terms", says = "ROWS (1 to 1,000,000)")
    static void rows_from_1_to_a_million() {
        for (int rows : new int[] {1, 2, 999_999, MILLION}) {
            Counted m = new Counted();
            Check.due("table of " + rows, m.table(rows, 15, NONE, 4), 0);
            Check.due("tableOf", m.tableOf(0, 0), rows);
            Check.due("ROWS", m.group(m.scan(0), 1), rows);
        }
        for (int rows : new int[] {0, -1, MILLION + 1, Integer.MIN_VALUE, Integer.MAX_VALUE}) {
            Check.refused("table of " + rows, () -> tables(1), m -> m.table(rows, 15, NONE, 4), -6);
        }
    }

    @Sentence(in = "Terms", says = "COLUMNS (at least one)")
    static void one_column_at_least() {
        Check.refused("no COLUMN", () -> tables(1), m -> m.table(1, 0, NONE, 4), -6);
        for (int columns : new int[] {1, 2, 4, 8}) {
            Check.taken("one COLUMN", () -> tables(1), m -> m.table(1, columns, NONE, 4), 1);
        }
    }

    @Sentence(in = "Terms", says = "ORDER (one of its COLUMNS, or NONE)")
    static void order_is_one_of_its_columns() {
        for (int columns = 1; columns <= 15; columns++) {
            Counted m = new Counted();
            int t = 0;
            for (int order = -2; order <= 5; order++) {
                boolean may = order == NONE || order >= 0 && order <= 3 && (columns >> order & 1) == 1;
                String call = "table of COLUMNS " + columns + ", ORDER " + order;
                Check.due(call, m.table(1, columns, order, 4), may ? t : -6);
                Check.due(call + ", tableOf", m.tableOf(t, 2), may ? order : -5);
                t += may ? 1 : 0;
            }
        }
    }

    @Sentence(in = "Terms", says = "PLACE (one of its COLUMNS: parted by it; 4: all in one)")
    static void place_is_one_of_its_columns() {
        for (int columns = 1; columns <= 15; columns++) {
            Counted m = new Counted();
            int t = 0;
            for (int place = -2; place <= 6; place++) {
                boolean may = place == 4 || place >= 0 && place <= 3 && (columns >> place & 1) == 1;
                String call = "table of COLUMNS " + columns + ", PLACE " + place;
                Check.due(call, m.table(1, columns, NONE, place), may ? t : -6);
                Check.due(call + ", tableOf", m.tableOf(t, 3), may ? place : -5);
                t += may ? 1 : 0;
            }
        }
    }

    // ---- promise 9

    @Sentence(in = "Promise 9", says = "-6 ROWS,")
    static void table_of_rows_that_may_not_be() {
        Check.edges("table of ROWS", () -> tables(2), 1, MILLION, (m, rows) -> m.table(rows, 7, 2, 0), -6);
    }

    @Sentence(in = "Promise 9", says = "COLUMNS, ORDER")
    static void table_of_columns_that_may_not_be() {
        Check.edges("table of COLUMNS", () -> tables(2), 1, 15, (m, columns) -> m.table(1, columns, NONE, 4), -6);
    }

    @Sentence(in = "Promise 9", says = "ORDER, PLACE;")
    static void table_of_an_order_that_may_not_be() {
        Check.edges("table of ORDER", () -> tables(2), NONE, 3, (m, order) -> m.table(1, 15, order, 4), -6);
        Check.refused("ORDER 0 of COLUMNS 1 and 2", () -> tables(2), m -> m.table(1, 6, 0, 4), -6);
        Check.refused("ORDER 3 of COLUMNS 1 and 2", () -> tables(2), m -> m.table(1, 6, 3, 4), -6);
    }

    @Sentence(in = "Promise 9", says = "PLACE; -7.")
    static void table_of_a_place_that_may_not_be() {
        Check.edges("table of PLACE", () -> tables(2), 0, 4, (m, place) -> m.table(1, 15, 0, place), -6);
        Check.refused("no PLACE", () -> tables(2), m -> m.table(1, 15, 0, NONE), -6);
    }

    @Sentence(in = "Promise 9", says = "-7.")
    static void table_without_room() {
        Check.taken("the eighth", () -> tables(7), m -> m.table(1, 1, 0, 0), 7);
        Check.refused("the ninth", () -> tables(8), m -> m.table(1, 1, 0, 0), -7);
        Check.refused("-6 ahead of -7", () -> tables(8), m -> m.table(0, 1, 0, 0), -6);
        Check.refused("-6 ahead of -7", () -> tables(8), m -> m.table(1, 0, 0, 0), -6);
        Check.refused("-6 ahead of -7", () -> tables(8), m -> m.table(1, 1, 1, 0), -6);
        Check.refused("-6 ahead of -7", () -> tables(8), m -> m.table(1, 1, 0, 1), -6);
    }

    @Sentence(in = "Promise 9", says = "A TABLE: its number.")
    static void tables_may_be_alike() {
        Counted m = new Counted();
        Check.due("table", m.table(5, 3, 0, 1), 0);
        Check.due("the same again is another", m.table(5, 3, 0, 1), 1);
        Check.due("and so are their SCANS", m.scan(1) * 10 + m.scan(0), 1);
        facts(m, 1, 5, 3, 0, 1);
    }

    // ---- promise 10

    @Sentence(in = "Promise 10", says = "-5: no such one, another what.")
    static void table_of_none() {
        Check.edges("tableOf t", () -> tables(3), 0, 2, (m, t) -> m.tableOf(t, 0), -5);
        Check.edges("tableOf t", () -> tables(8), 0, 7, (m, t) -> m.tableOf(t, 3), -5);
        Check.edges("tableOf what", () -> tables(3), 0, 3, (m, what) -> m.tableOf(2, what), -5);
        Check.refused("tableOf ahead of any", Counted::new, m -> m.tableOf(0, 0), -5);
        Check.refused("both", () -> tables(1), m -> m.tableOf(1, 4), -5);
        Check.taken("an ORDER that is NONE is told", () -> tables(1), m -> m.tableOf(0, 2), NONE);
    }

    // ---- promise 11

    @Sentence(in = "Promise 11", says = "-1;")
    static void distinct_of_no_column() {
        Check.edges("distinct of", () -> tables(1), 0, 3, (m, c) -> m.distinct(c, 9), -1);
        Check.refused("-1 ahead of -6", () -> tables(1), m -> m.distinct(4, 0), -1);
    }

    @Sentence(in = "Promise 11", says = "-6.")
    static void distinct_that_may_not_be() {
        for (int c = 0; c < 4; c++) {
            int column = c;
            Check.edges("distinct", () -> tables(1), 1, MILLION, (m, v) -> m.distinct(column, v), -6);
        }
    }

    @Sentence(in = "Promise 11", says = "DISTINCT of a COLUMN becomes v: what it was.")
    static void distinct_counts_at_once() {
        Counted m = Check.scanned();
        m.tally(2, 0);
        Check.due("ROWS", m.group(1, 1), 100);
        Check.due("cost", m.cost(1, NONE, NONE), 2000 + 100 + 1000);
        m.distinct(2, 30);
        Check.due("ROWS behind it", m.group(1, 1), 30);
        Check.due("cost behind it", m.cost(1, NONE, NONE), 2000 + 30 + 1000);
        m.distinct(3, 1);
        Check.due("another COLUMN's", m.group(1, 1), 30);
    }
}
