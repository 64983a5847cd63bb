/** The boundaries of TEXTS, read and spelled: promises 17, 18 and 36. */
final class TextBoundaries {
    private static final int NONE = PlanMemo.NONE;

    private TextBoundaries() {
    }

    /** TABLES of COLUMNS 0, 1 and of COLUMNS 1, 2; nothing is TOLD. SHELF 6 holds NOTHING. */
    private static Counted two() {
        Counted m = new Counted();
        m.table(1000, 3, NONE, 4);
        m.table(50, 6, NONE, 4);
        return m;
    }

    private static Counted withText(Counted m, int sort, String letters) {
        m.text(7, sort, letters);
        return m;
    }

    /** The TEXT has this FAULT: read() is refused, and nothing but the FAULT and how many there were changes. */
    private static void fault(Check.Make make, String letters, int place) {
        Counted m = withText(make.get(), 0, letters);
        int refusals = m.refusals(6);
        int expressions = m.status(1);
        Check.due("read of '" + letters + "'", m.read(7), -6);
        Check.due("fault of '" + letters + "'", m.fault(), place);
        Check.due("REFUSALS", m.refusals(6), refusals + 1);
        Check.due("EXPRESSIONS", m.status(1), expressions);
        Check.due("GROUPS ever made", m.status(9), expressions);
        Check.due("the ROW is as it was", m.letters(7, letters.length()), letters);
    }

    private static void fault(String letters, int place) {
        fault(TextBoundaries::two, letters, place);
    }

    /** The TEXT has none. */
    private static void read(String letters, int group) {
        for (int sort = 0; sort < 4; sort++) {
            Counted m = withText(two(), sort, letters);
            Check.due("read of '" + letters + "', SORT " + sort, m.read(7), group);
            Check.due("fault of it", m.fault(), NONE);
            Check.due("EXPRESSIONS", m.status(1), group + 1);
            Check.due("REFUSALS", m.refusals(6), 0);
        }
    }

    // ---- Terms

    @Sentence(in = "Terms", says = "scan T, or keep P(EXPRESSION), tally C(EXPRESSION), join C(EXPRESSION,EXPRESSION), "
        + "half C(EXPRESSION,EXPRESSION)")
    static void all_forms() {
        read("scan 0", 0);
        read("scan 1", 0);
        read("keep 3(scan 0)", 1);
        read("tally 2(scan 1)", 1);
        read("join 1(scan 0,scan 1)", 2);
        read("half 1(scan 1,scan 0)", 2);
    }

    @Sentence(in = "Terms", says = "one blank ahead of T, P, C, each one digit.")
    static void one_blank_and_one_digit() {
        String[] words = {"scan", "keep", "tally", "join", "half"};
        String[] behind = {"", "(scan 0)", "(scan 0)", "(scan 0,scan 1)", "(scan 0,scan 1)"};
        for (int i = 0; i < words.length; i++) {
            int n = words[i].length();
            fault(words[i] + "1" + behind[i], n);
            fault(words[i] + "  1" + behind[i], n + 1);
            fault(words[i] + "\t1" + behind[i], n);
            fault(words[i] + " 11" + behind[i], n + 2);
            fault(words[i] + " 01" + behind[i], n + 2);
            fault(words[i] + " " + behind[i], n + 1);
            fault(words[i] + " 1 " + behind[i], n + 2);
            fault(words[i] + " -1" + behind[i], n + 1);
            fault(words[i] + " x" + behind[i], n + 1);
            read(words[i] + " 1" + behind[i], i == 0 ? 0 : i < 3 ? 1 : 2);
        }
    }

    @Sentence(in = "Terms", says = "All in it are TOLD, what is inside and to the left first")
    static void inside_and_to_the_left_first() {
        Counted m = two();
        Check.due("read", m.read("half 1(keep 1(scan 0),tally 1(join 1(scan 0,scan 1)))"), 5);
        Check.expression(m, 0, 1, 0, NONE, NONE, 0);
        Check.expression(m, 1, 3, 1, 0, NONE, 1);
        Check.expression(m, 2, 1, 1, NONE, NONE, 2);
        Check.expression(m, 3, 5, 1, 0, 2, 3);
        Check.expression(m, 4, 4, 1, 3, NONE, 4);
        Check.expression(m, 5, 6, 1, 1, 4, 5);
        Check.due("EXPRESSIONS", m.status(1), 6);
        Counted again = two();
        again.scan(1);
        again.join(1, again.scan(0), 0);
        Check.due("what is there is meant", again.read("keep 4(join 1(scan 0,scan 1))"), 3);
        Check.expression(again, 3, 3, 4, 2, NONE, 3);
    }

    @Sentence(in = "Terms", says = "or nothing. The FAULT")
    static void or_nothing() {
        fault("join 1(keep 1(scan 0),keep 0(scan 1))", 22);
        fault("join 1(keep 1(scan 0),scan 1)x", 29);
        Check.alike("read of a FAULT changes nothing but the FAULT", () -> {
            Counted m = withText(Check.busy(), 0, "join 1(scan 1,scan 9)");
            Check.due("read", m.read(7), -6);
            Check.due("fault", m.fault(), 19);
            m.read(1);
            return m;
        }, () -> {
            Counted m = withText(Check.busy(), 0, "join 1(scan 1,scan 9)");
            m.read(1);
            return m;
        });
    }

    @Sentence(in = "Terms", says = "The FAULT: the first place at which an element can't stand as such texts go on")
    static void each_place_at_which_an_element_cannot_stand() {
        String text = "half 1(keep 3(tally 1(scan 0)),join 2(scan 1,scan 1))";
        read(text, 5);
        for (int i = 0; i < text.length(); i++) {
            fault(text.substring(0, i) + "x" + text.substring(i + 1), i);
            fault(text.substring(0, i) + "\0" + text.substring(i), i);
            fault(text.substring(0, i) + (char) (text.charAt(i) ^ 32) + text.substring(i + 1), i);
        }
        // At a first letter five may stand, at a digit those of its kind, at all others just one.
        for (int i = 0; i < text.length(); i++) {
            boolean first = i == 0 || "(,".indexOf(text.charAt(i - 1)) >= 0;
            boolean digit = Character.isDigit(text.charAt(i));
            for (char other : "sktjhcaneplyoif 0123456789(),".toCharArray()) {
                boolean may = other == text.charAt(i) || first && "sktjh".indexOf(other) >= 0
                    || digit && Character.isDigit(other);
                if (!may) {
                    fault(text.substring(0, i) + other + text.substring(i + 1), i);
                }
            }
        }
        fault("s(an 0", 1);
        fault("keep 1(s(an 0)", 8);
        fault(text + "x", text.length());
        fault(text + ")", text.length());
        fault(text + ",", text.length());
        fault(text + " ", text.length());
        fault(text + "scan 0", text.length());
        fault("keep 1(scan 0,scan 1)", 13);
        fault("tally 1(scan 0,scan 1)", 14);
        fault("join 1(scan 0)", 13);
        fault("half 1(scan 0)", 13);
        fault("join 1(scan 0,scan 1,scan 0)", 20);
        fault("scan 0(scan 0)", 6);
        fault("keep 1[scan 0)", 6);
        fault("keep 1()", 7);
        fault("join 1(,scan 0)", 7);
        fault("join 1(scan 0,)", 14);
        fault("kally 1(scan 0)", 1);
        fault("tcan 0", 1);
        fault("(scan 0)", 0);
        fault("0", 0);
    }

    @Sentence(in = "Terms", says = "(the number of elements, if it ends too early)")
    static void texts_that_end_too_early() {
        String[] texts = {"half 1(keep 3(tally 1(scan 0)),join 2(scan 1,scan 1))", "scan 1", "tally 0(keep 3(scan 0))"};
        for (String text : texts) {
            for (int n = 0; n < text.length(); n++) {
                fault(text.substring(0, n), n);
            }
        }
        StringBuilder open = new StringBuilder();
        for (int i = 0; i < 20; i++) {
            open.append("tally 1(");
        }
        fault(open.toString(), 160);
        fault(open.substring(0, 159), 159);
        fault("keep 1(".repeat(22), 154);
    }

    @Sentence(in = "Terms", says = "of a digit that may not be (no such TABLE too) its place;")
    static void digits_that_may_not_be() {
        // Behind 9 and ahead of 0 stand : and /.
        for (int digit = -1; digit <= 10; digit++) {
            char d = (char) ('0' + digit);
            for (int tables = 0; tables <= 8; tables++) {
                int count = tables;
                Check.Make make = () -> {
                    Counted m = new Counted();
                    for (int t = 0; t < count; t++) {
                        m.table(9, 15, NONE, 4);
                    }
                    return m;
                };
                if (digit < 0 || digit >= tables) {
                    fault(make, "scan " + d, 5);
                } else {
                    Check.due("scan " + d, make.get().read("scan " + d), 0);
                }
            }
            Check.Make all = () -> {
                Counted m = new Counted();
                m.table(9, 15, NONE, 4);
                return m;
            };
            if (digit < 0 || digit > 7) {
                fault(all, "keep " + d + "(scan 0)", 5);
            } else {
                Check.due("keep " + d, all.get().read("keep " + d + "(scan 0)"), 1);
            }
            if (digit < 0 || digit > 3) {
                fault(all, "tally " + d + "(scan 0)", 6);
                fault(all, "join " + d + "(scan 0,scan 0)", 5);
                fault(all, "half " + d + "(scan 0,scan 0)", 5);
            } else {
                Check.due("tally " + d, all.get().read("tally " + d + "(scan 0)"), 1);
                Check.due("join " + d, all.get().read("join " + d + "(scan 0,scan 0)"), 1);
                Check.due("half " + d, all.get().read("half " + d + "(scan 0,scan 0)"), 1);
            }
        }
        fault("join 1(scan 0,scan 2)", 19);
        fault("join 1(scan 2,scan 0)", 12);
    }

    @Sentence(in = "Terms", says = "of an EXPRESSION that may not be by its COLUMNS, judged when its last ) has been read, its first letter.")
    static void expressions_that_may_not_be() {
        fault("keep 4(scan 0)", 0);
        fault("keep 0(scan 1)", 0);
        fault("tally 2(scan 0)", 0);
        fault("tally 3(scan 1)", 0);
        fault("join 0(scan 0,scan 1)", 0);
        fault("join 2(scan 0,scan 1)", 0);
        fault("half 0(scan 0,scan 1)", 0);
        fault("half 2(scan 0,scan 1)", 0);
        fault("tally 0(tally 1(scan 0))", 0);
        fault("keep 4(half 1(scan 0,scan 1))", 0);
        read("keep 4(join 1(scan 0,scan 1))", 3);
        read("keep 4(half 1(scan 1,scan 0))", 3);
        // Inside: the place of its first letter.
        fault("keep 1(keep 4(scan 0))", 7);
        fault("join 1(tally 2(scan 0),scan 1)", 7);
        fault("join 1(scan 1,half 2(scan 1,scan 0))", 14);
        fault("join 1(scan 1,half 1(scan 1,keep 5(scan 0)))", 28);
        // What is inside is judged ahead of what is around it, the left ahead of the right.
        fault("tally 0(join 0(scan 0,scan 1))", 8);
        fault("join 1(keep 4(scan 0),keep 0(scan 1))", 7);
        // Its last ) is to be read first: what can't stand there is the FAULT, what can't stand behind it is not.
        fault("keep 4(scan 0", 13);
        fault("keep 4(scan 0x", 13);
        fault("keep 4(scan 0,", 13);
        fault("keep 4(scan 0)x", 0);
        fault("keep 4(scan 0))", 0);
        fault("join 0(scan 0,scan 1", 20);
        fault("join 0(scan 0,scan 1x", 20);
        fault("join 1(keep 4(scan 0)x", 7);
        fault("join 1(keep 4(scan 0),x", 7);
        fault("join 1(keep 4(scan 0x", 20);
    }

    @Sentence(in = "3. DEMANDS", says = "All is read as ints (of longs the lowest 32 bits).")
    static void elements_read_as_ints() {
        String text = "keep 1(scan 0)";
        for (int i = 0; i < text.length(); i++) {
            char letter = text.charAt(i);
            long[] others = {letter + (1L << 32), letter - (1L << 40), letter | Long.MIN_VALUE};
            for (long other : others) {
                Counted m = withText(two(), 3, text);
                m.set(7, i, other);
                Check.due("read with higher bits at " + i, m.read(7), 1);
                Check.due("fault", m.fault(), NONE);
            }
            long[] wrong = {letter + 256, letter - 256, letter + 65536, letter | 1L << 31, 0xFFFF_FFFFL, -1, 0, Integer.MIN_VALUE,
                Integer.MAX_VALUE};
            for (long other : wrong) {
                for (int sort = 2; sort < 4; sort++) {
                    Counted m = withText(two(), sort, text);
                    m.set(7, i, other);
                    Check.due("read with " + other + " at " + i, m.read(7), -6);
                    Check.due("fault", m.fault(), i);
                }
            }
            Counted bytes = withText(two(), 0, text);
            bytes.set(7, i, letter + 256);
            Check.due("bytes keep the lowest bits", bytes.read(7), 1);
            Counted shorts = withText(two(), 1, text);
            shorts.set(7, i, letter + 65536);
            Check.due("shorts keep the lowest bits", shorts.read(7), 1);
            shorts.set(7, i, letter + 256);
            Check.due("shorts keep more than bytes", shorts.read(7), -6);
        }
    }

    // ---- promise 17

    private static final String LONGEST = "keep 0(".repeat(8) + "tally 0(".repeat(10) + "scan 0" + ")".repeat(18);

    @Sentence(in = "Promise 17", says = "A TEXT by the ROW in SHELF s: its GROUP.")
    static void read_of_the_longest() {
        Check.due("letters", LONGEST.length(), 160);
        Counted m = two();
        Check.due("read", m.read(LONGEST), 18);
        Check.due("EXPRESSIONS", m.status(1), 19);
        Counted one = two();
        Check.due("one letter less", one.read(LONGEST.substring(0, 159)), -6);
        Check.due("its FAULT", one.fault(), 159);
        Counted keeps = two();
        Check.due("19 KEEPS", keeps.read("keep 3(".repeat(19) + "scan 0" + ")".repeat(19)), 19);
        Counted joins = two();
        String join = "scan 0";
        for (int i = 0; i < 10; i++) {
            join = i % 2 == 0 ? "join 0(" + join + ",scan 0)" : "half 1(scan 0," + join + ")";
        }
        Check.due("letters", join.length(), 156);
        Check.due("ten of two", joins.read(join), 10);
        Check.due("a TEXT that is there", joins.read("half 1(scan 0,join 0(scan 0,scan 0))"), 2);
    }

    @Sentence(in = "Promise 17", says = "-1; -2; -3;")
    static void read_of_no_row() {
        Check.Make make = () -> {
            Counted m = withText(two(), 0, "x");
            m.read(7);
            m.scan(0);
            m.show(3, 0);
            return m;
        };
        Check.beyond("read in", make, 0, 7, (m, s) -> m.read(s), -1);
        Check.refused("an EXPRESSION", make, m -> m.read(3), -2);
        Check.refused("NOTHING", make, m -> m.read(6), -3);
        Check.taken("read in SHELF 0", () -> {
            Counted m = two();
            m.text(0, 0, "scan 1");
            return m;
        }, m -> m.read(0), 0);
        Check.taken("read in SHELF 7", () -> withText(two(), 0, "scan 1"), m -> m.read(7), 0);
    }

    @Sentence(in = "Promise 17", says = "-6 a FAULT;")
    static void read_of_a_row_of_none() {
        fault("", 0);
        fault("x", 0);
        Counted full = Check.chain(64);
        Check.due("-6 ahead of -7", full.read("keep 7(scan 0)x"), -6);
        Check.due("its FAULT", full.fault(), 14);
        Check.due("-6 ahead of -7", full.read("keep 7(scan 1)"), -6);
        Check.due("its FAULT", full.fault(), 12);
        Check.due("REFUSALS", full.refusals(6), 2);
        Check.due("REFUSALS", full.refusals(7), 0);
    }

    @Sentence(in = "Promise 17", says = "-7 no room for all that would be new.")
    static void read_without_room() {
        // New ones: 0 to 3, with room for 0 to 3.
        String[] texts = {"keep 1(scan 0)", "keep 7(scan 0)", "tally 2(keep 7(scan 0))", "join 2(keep 6(scan 0),keep 7(scan 0))"};
        for (int there = 61; there <= 64; there++) {
            int expressions = there;
            for (int isNew = 0; isNew < 4; isNew++) {
                String text = texts[isNew];
                Check.Make make = () -> withText(Check.chain(expressions), 0, text);
                if (there + isNew > 64) {
                    Check.refused("read of " + isNew + " with " + there, make, m -> m.read(7), -7);
                } else {
                    Check.taken("read of " + isNew + " with " + there, make, m -> m.read(7),
                        isNew == 0 ? 1 : there + isNew - 1);
                    int count = there + isNew;
                    Check.taken("EXPRESSIONS then", make, m -> m.read(7) * 0 + m.status(1), count);
                }
            }
        }
        Check.taken("the same twice is new once", () -> withText(Check.chain(62), 0, "join 0(keep 7(scan 0),keep 7(scan 0))"),
            m -> m.read(7), 63);
        Check.refused("the same twice is new once", () -> withText(Check.chain(63), 0, "join 0(keep 7(scan 0),keep 7(scan 0))"),
            m -> m.read(7), -7);
        Counted m = Check.chain(63);
        Check.due("read -7", m.read("tally 2(keep 7(scan 0))"), -7);
        Check.due("what was taken back can be TOLD", m.keep(7, 0), 63);
        Check.due("its GROUP", m.group(63, 3), 63);
        Check.due("users", m.group(0, 4), 2);
    }

    // ---- promise 18

    @Sentence(in = "Promise 18", says = "NONE: there was none, or none yet.")
    static void fault_of_none() {
        Counted m = two();
        Check.due("none yet", m.fault(), NONE);
        Check.due("read of NOTHING", m.read(0), -3);
        Check.due("none yet", m.fault(), NONE);
        Check.due("read", m.read("scan 0"), 0);
        Check.due("there was none", m.fault(), NONE);
        Check.due("read", m.read("scan 0x"), -6);
        Check.due("there was one", m.fault(), 6);
        Check.due("read", m.read("scan 1"), 1);
        Check.due("there was none", m.fault(), NONE);
        Check.due("read", m.read("scan"), -6);
        Check.due("there was one", m.fault(), 4);
        Check.due("read", m.read(""), -6);
        Check.due("there was one", m.fault(), 0);
        Check.due("nothing is refused by fault()", m.refusals(6), 3);
    }

    @Sentence(in = "Promise 18", says = "The FAULT of the latest read() that came to a ROW")
    static void fault_of_the_latest_that_came_to_a_row() {
        Counted m = two();
        m.scan(0);
        m.show(0, 0);
        Check.due("read", m.read("scan 0 "), -6);
        Check.due("read -1", m.read(8), -1);
        Check.due("read -1", m.read(-1), -1);
        Check.due("read -2", m.read(0), -2);
        Check.due("read -3", m.read(1), -3);
        Check.due("the FAULT is as it was", m.fault(), 6);
        m.row(7, 0, 0);
        m.image();
        m.restore();
        Check.due("the FAULT is as it was", m.fault(), 6);
        // One that has no room came to a ROW, and has no FAULT.
        Counted full = Check.chain(64);
        full.read("x");
        Check.due("the FAULT", full.fault(), 0);
        Check.due("read -7", full.read("keep 7(scan 0)"), -7);
        Check.due("no FAULT", full.fault(), NONE);
    }

    // ---- promise 36

    /** THE PLAN is that of the TEXT, with a SORT and a SHIP on top; SHELF 7 holds the TEXT. */
    private static Counted planned(String text, int order, int place) {
        Counted m = two();
        Check.due("read", m.read(text) >= 0, true);
        Check.due("plan", m.plan(m.status(9) - 1, order, place) > 0, true);
        return m;
    }

    @Sentence(in = "Promise 36", says = "-1; -2; -3;")
    static void spell_in_no_row() {
        Check.Make make = () -> {
            Counted m = planned("scan 0", NONE, NONE);
            m.show(3, 0);
            return m;
        };
        Check.beyond("spell in", make, 0, 7, (m, s) -> m.spell(s), -1);
        Check.refused("an EXPRESSION", make, m -> m.spell(3), -2);
        Check.refused("NOTHING", make, m -> m.spell(6), -3);
        Check.taken("spell in SHELF 0", make, m -> m.row(0, 0, 6) * 0 + m.spell(0), 6);
        Check.taken("spell in SHELF 7", make, m -> m.spell(7), 6);
        Check.refused("-2 ahead of -5", () -> {
            Counted m = Check.scanned();
            m.show(3, 0);
            return m;
        }, m -> m.spell(3), -2);
        Check.refused("-3 ahead of -5", Counted::new, m -> m.spell(0), -3);
        Check.refused("-1 ahead of -5", Counted::new, m -> m.spell(8), -1);
    }

    @Sentence(in = "Promise 36", says = "-5 there is none;")
    static void spell_of_no_plan() {
        Check.refused("no PLAN", () -> withText(Check.scanned(), 0, "scan 0"), m -> m.spell(7), -5);
        Check.refused("-5 ahead of -7", () -> withText(Check.scanned(), 0, ""), m -> m.spell(7), -5);
        Check.refused("a PLAN refused is none", () -> {
            Counted m = withText(Check.scanned(), 0, "scan 0");
            m.allow(1, false);
            m.plan(0, NONE, NONE);
            return m;
        }, m -> m.spell(7), -5);
    }

    @Sentence(in = "Promise 36", says = "-7 the ROW is too short.")
    static void spell_in_a_row_too_short() {
        String[] texts = {"scan 1", "keep 2(scan 0)", "tally 1(scan 0)", "join 1(scan 0,scan 1)",
            "half 1(keep 3(tally 1(scan 0)),join 2(scan 1,scan 1))"};
        for (String text : texts) {
            for (int longer = -2; longer <= 2; longer++) {
                int n = text.length() + longer;
                Check.Make make = () -> {
                    Counted m = planned(text, NONE, NONE);
                    m.row(0, 1, n);
                    m.set(0, 0, 7);
                    m.set(0, n - 1, 9);
                    return m;
                };
                if (longer < 0) {
                    Check.refused("spell of " + text + " in " + n, make, m -> m.spell(0), -7);
                } else {
                    Check.taken("spell of " + text + " in " + n, make, m -> m.spell(0), text.length());
                    Counted m = make.get();
                    m.spell(0);
                    Check.due("the letters", m.letters(0, text.length()), text);
                    Check.due("what is behind them stays", m.element(0, n - 1), longer == 0 ? text.charAt(n - 1) : 9);
                }
            }
        }
        Check.refused("a ROW of none", () -> {
            Counted m = planned("scan 0", NONE, NONE);
            m.row(0, 1, 0);
            return m;
        }, m -> m.spell(0), -7);
    }

    @Sentence(in = "Promise 36", says = "is put into the ROW in SHELF s, from element 0 on: how many letters.")
    static void spell_of_160_letters() {
        String less = "tally 0(".repeat(17) + "scan 0" + ")".repeat(17);
        String more = "keep 0(".repeat(16) + "tally 0(".repeat(3) + "scan 0" + ")".repeat(19);
        Check.due("letters", less.length(), 159);
        Check.due("letters", LONGEST.length(), 160);
        Check.due("letters", more.length(), 161);
        for (String text : new String[] {less, LONGEST}) {
            Counted m = planned(text, NONE, NONE);
            m.row(0, 0, 160);
            Check.due("spell", m.spell(0), text.length());
            Check.due("the letters", m.letters(0, text.length()), text);
            m.row(0, 0, 159);
            Check.due("spell in 159", m.spell(0), text.length() == 159 ? 159 : -7);
        }
        Counted m = two();
        int g = m.scan(0);
        for (int i = 0; i < 19; i++) {
            g = i < 3 ? m.tally(0, g) : m.keep(0, g);
        }
        Check.due("plan", m.plan(g, NONE, NONE), 20);
        m.row(0, 3, 160);
        Check.due("spell of 161", m.spell(0), -7);
        Check.due("nothing is put", m.element(0, 0), 0);
    }

    @Sentence(in = "Promise 36", says = "THE PLAN without SORTS and SHIPS as a TEXT")
    static void spell_without_sorts_and_ships() {
        Counted m = planned("keep 3(scan 0)", 1, 1);
        Check.due("SORT on top", m.planAt(0, 0), 10);
        Check.due("SHIP below it", m.planAt(1, 0), 11);
        for (int sort = 0; sort < 4; sort++) {
            m.row(sort, sort, 15);
            Check.due("spell", m.spell(sort), 14);
            Check.due("the letters", m.letters(sort, 14), "keep 3(scan 0)");
            Check.due("read", m.read(sort), -6);
            Check.due("up to what is behind", m.fault(), 14);
        }
        Counted inside = planned("join 1(half 1(scan 0,scan 1),tally 1(scan 1))", 0, NONE);
        Check.due("plan, sorted", inside.plan(inside.status(9) - 1, 1, 1) > 6, true);
        inside.row(0, 0, 45);
        Check.due("spell", inside.spell(0), 45);
        Check.due("the letters", inside.letters(0, 45), "join 1(half 1(scan 0,scan 1),tally 1(scan 1))");
    }
}
