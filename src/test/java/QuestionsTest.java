/** Promises 15 to 19: questions, their faults, and tables. */
public final class QuestionsTest {
    private static final long MAX_TIME = 1099511627775L;
    private static final Check CHECK = new Check();

    private QuestionsTest() {
    }

    public static void main(String[] args) {
        arguments();
        tapeAndTable();
        faults();
        depths();
        namesAfterBy();
        tablesThatDoNotGoTogether();
        numbers();
        windows();
        functions();
        functionsOverParcels();
        ties();
        growth();
        matches();
        groups();
        twoTables();
        nothing();
        seenAlone();
        accessors();
        greatTable();
        CHECK.finish("QuestionsTest");
    }

    /** Four series with points at 10, 20, 30, partly packed. */
    private static Probe filled() {
        Probe p = new Probe();
        p.series("job=api,host=h1");
        p.series("job=api,host=h2");
        p.series("job=web,host=h1");
        p.series("zone=z");
        p.bulk(0, 10, 100, 20, 150, 30, 120);
        p.bulk(1, 10, 7, 25, 9);
        p.vault.flush();
        p.bulk(2, 20, -5);
        p.bulk(3, 35, 1000);
        return p;
    }

    private static void arguments() {
        Probe p = new Probe();
        Tape.put(p.vault, "1");
        long[][] wrong = {{-1, 1, 1}, {MAX_TIME + 1, 1, 1}, {0, 0, 1}, {0, -1, 1}, {0, MAX_TIME + 1, 1}, {0, 1, 0}, {0, 1, -1},
            {0, 1, 65}, {Long.MIN_VALUE, 1, 1}, {0, Long.MAX_VALUE, 1}, {0, 1, Integer.MAX_VALUE}, {0, 1, Integer.MIN_VALUE}};
        for (long[] w : wrong) {
            CHECK.refused("15: ask(" + w[0] + ", " + w[1] + ", " + w[2] + ")", Probe.ARGUMENT, () -> p.vault.ask(w[0], w[1], (int) w[2]));
        }
        CHECK.due("15: the tape stays", p.tapeLength(), 1);
        CHECK.due("15: ask", p.vault.ask(MAX_TIME, MAX_TIME, 64), 1);
        CHECK.due("15: cell", p.vault.cell(0, 63), 1);
        p.vault.off();
        Tape.put(p.vault, "2");
        CHECK.refused("15: without power", Probe.STATE, () -> p.vault.ask(-1, 0, 0));
        CHECK.due("15: the tape stays", p.tapeLength(), 1);
    }

    private static void tapeAndTable() {
        Probe p = new Probe();
        p.ask("5", 0, 1, 2);
        CHECK.due("15: the tape is empty", p.tapeLength(), 0);
        CHECK.due("15: table", p.table(1, 2), " 5 5");
        p.series("a=");
        Tape.put(p.vault, "7");
        CHECK.refused("15: n = 0", Probe.ARGUMENT, () -> p.vault.ask(0, 1, 0));
        CHECK.due("15: the table stays", p.table(1, 2), " 5 5");
        CHECK.due("15: fault stays", p.fault(), "7 at 2");
        p.vault.ask(0, 1, 1);
        CHECK.due("15: it takes its place", p.table(1, 1), " 7");
        CHECK.refused("15: window 1", Probe.INDEX, () -> p.vault.cell(0, 1));
        CHECK.due("15: a fault", p.ask("7)", 0, 1, 1), SeriesVault.NONE);
        CHECK.due("15: no table", p.vault.names(), SeriesVault.NONE);
        CHECK.due("15: the tape is empty", p.tapeLength(), 0);
        CHECK.refused("15: no row", Probe.INDEX, () -> p.vault.cell(0, 0));
        CHECK.due("15: no rows", p.ask("sum({})", 0, 1, 1), 0);
        CHECK.due("15: but a table", p.vault.names(), 0);
        CHECK.refused("15: no row", Probe.INDEX, () -> p.vault.isThere(0, 0));
    }

    private static void faults() {
        String[][] faults = {
            {"", "2 at 0"}, {"   ", "2 at 3"}, {"1 ", "0 at 0"}, {" 1", "0 at 0"}, {"1+", "2 at 2"}, {"1+  ", "2 at 4"}, {"+1", "2 at 0"},
            {"1 1", "2 at 2"}, {"1*/2", "2 at 2"}, {"(1", "2 at 2"}, {"1)", "2 at 1"}, {"()", "2 at 1"}, {"(1))", "2 at 3"},
            {"\"a\"", "2 at 0"}, {"#", "1 at 0"}, {"1 #", "1 at 2"}, {"1\t", "1 at 1"}, {"1\n+", "1 at 1"}, {"\u00e4", "1 at 0"},
            {"1 1 #", "2 at 2"}, {"1 !", "1 at 2"}, {"1 ^", "1 at 2"}, {"1 ^ =", "1 at 2"}, {"1 ! =", "1 at 2"}, {"1 !=", "2 at 2"},
            {"1 ^=", "2 at 2"}, {"1 !^", "2 at 2"}, {"1 !^=", "2 at 2"}, {"1 =", "2 at 2"}, {"1 \"", "1 at 2"}, {"1 \"a", "1 at 2"},
            {"1 \"\t\"", "1 at 2"}, {"1 \"\u007f\"", "1 at 2"}, {"1 \" ~\"", "2 at 2"}, {"\"", "1 at 0"},
            {"9223372036854775807", "0 at 0"}, {"9223372036854775808", "1 at 0"}, {"1+09223372036854775807", "0 at 0"},
            {"1+9999999999999999999", "1 at 2"}, {"1 92233720368547758070", "1 at 2"}, {"1+18446744073709551617", "1 at 2"},
            {"00000000000000000000000000000000000000005", "0 at 0"}, {"1a", "2 at 1"}, {"a", "2 at 0"}, {"_", "2 at 0"}, {"by", "2 at 0"},
            {"Sum({})", "2 at 0"}, {"sums({})", "2 at 0"}, {"sum5({})", "2 at 0"}, {"sum", "2 at 3"}, {"sum(", "2 at 4"}, {"sum()", "2 at 4"},
            {"sum({)", "2 at 5"}, {"sum({}", "2 at 6"}, {"sum({})", "0 at 0"}, {" sum ( { } ) ", "0 at 0"}, {"sum{}", "2 at 3"},
            {"sum(1)", "2 at 4"}, {"sum({a})", "2 at 6"}, {"sum({a=})", "2 at 7"}, {"sum({a=b})", "2 at 7"}, {"sum({a=\"b\"})", "0 at 0"},
            {"sum({a=\"b\",})", "2 at 11"}, {"sum({,})", "2 at 5"}, {"sum({a=\"b\" a=\"b\"})", "2 at 11"}, {"sum({5=\"b\"})", "2 at 5"},
            {"sum({a=\"b\"", "2 at 10"}, {"sum({a=\"b})", "1 at 7"}, {"sum({a!\"b\"})", "1 at 6"}, {"sum({a^\"b\"})", "1 at 6"},
            {"sum({a+\"b\"})", "2 at 6"}, {"sum({a!=\"\",b^=\"c\",d!^\"e\",a=\"\"})", "0 at 0"}, {"sum({sum=\"by\",by=\"\"})", "0 at 0"},
            {"sum by", "2 at 6"}, {"sum by (", "2 at 8"}, {"sum by ()({})", "2 at 8"}, {"sum by (a({})", "2 at 9"},
            {"sum by (a,)({})", "2 at 10"}, {"sum by (a)", "2 at 10"}, {"sum by (a)({})", "0 at 0"}, {"sum by(by,sum)({})", "0 at 0"},
            {"sum by by(a)({})", "2 at 7"}, {"sum bya(a)({})", "2 at 4"}, {"sum by (5)({})", "2 at 8"}, {"sum by ({})", "2 at 8"},
            {"sumby(a)({})", "2 at 0"}, {"sum({})sum({})", "2 at 7"}, {"-", "2 at 1"}, {"--1", "0 at 0"}, {"1--1", "0 at 0"},
            {"1-+1", "2 at 2"}, {"1%-1", "0 at 0"}, {"sum(-{})", "2 at 4"}, {"sum(({}))", "2 at 4"}, {"{}", "2 at 0"}, {"1,2", "2 at 1"},
        };
        for (String[] f : faults) {
            Probe p = new Probe();
            int rows = p.ask(f[0], 0, 1, 1);
            CHECK.due("15: fault of " + f[0], p.fault(), f[1]);
            CHECK.due("15: a fault or none " + f[0], rows == SeriesVault.NONE, !f[1].equals("0 at 0"));
        }
    }

    private static void depths() {
        String[][] faults = {
            {"((((((((1))))))))", "0 at 0"}, {"(((((((((1)))))))))", "3 at 8"}, {"--------1", "0 at 0"}, {"---------1", "3 at 8"},
            {"((((----1))))", "0 at 0"}, {"((((-----1))))", "3 at 8"}, {"(((((((((", "3 at 8"}, {"(((((((( (#", "3 at 9"},
            {"((((((((-", "3 at 8"}, {"((((((((#", "1 at 8"}, {"(((((((()", "2 at 8"}, {"((((((((1(", "2 at 9"},
            {"((((((((1-1))))))))", "0 at 0"}, {"((((((((1--1))))))))", "3 at 10"}, {"(-1)+(((((((-1)))))))", "0 at 0"},
            {"-1+--------1", "0 at 0"}, {"-1*---------1", "3 at 11"}, {"((((((((sum by (a) ({}) + 1))))))))", "0 at 0"},
            {"--------sum({})", "0 at 0"}, {"--------(1)", "3 at 8"}, {"-------(1)", "0 at 0"}, {"-------(1+-1)", "3 at 10"},
            {"((((((((1))))))))+((((((((1))))))))", "0 at 0"}, {"(((((((((1))))))))", "3 at 8"}, {"((((((((1)))))))", "2 at 16"},
        };
        Probe p = new Probe();
        for (String[] f : faults) {
            p.ask(f[0], 0, 1, 1);
            CHECK.due("15: fault of " + f[0], p.fault(), f[1]);
        }
        CHECK.due("15: all operands wait",
                p.asked("1+2*(1+2*(1+2*(1+2*(1+2*(1+2*(1+2*(1+2*(1+2*3))))))))", 0, 1, 1), " 2047");
    }

    private static void namesAfterBy() {
        String[][] faults = {
            {"sum by (a,a)({})", "4 at 10"}, {"sum by (a,b,a#", "4 at 12"}, {"sum by (a,a", "4 at 10"}, {"sum by (a,a a", "4 at 10"},
            {"sum by (a,b,c,d,e,f)({})", "0 at 0"}, {"sum by (a,b,c,d,e,f,g)({})", "4 at 20"}, {"sum by (a,b,c,d,e,f,a)({})", "4 at 20"},
            {"sum by (a,b,c,d,e,f,5)({})", "2 at 20"}, {"sum by (a,b,c,d,e,f,#)({})", "1 at 20"}, {"sum by (a,aa,A)({})", "0 at 0"},
            {"sum by (a#,a)({})", "1 at 9"}, {"sum by (a,b,c,d,e,f g)({})", "2 at 20"}, {"1+sum by (a)({}) + sum by (b,b)({})", "4 at 29"},
            {"sum by (a)({})+sum by (b)({}) #", "1 at 30"}, {"sum by (a)({})+sum by (b)({}) 1", "2 at 30"},
        };
        Probe p = new Probe();
        for (String[] f : faults) {
            p.ask(f[0], 0, 1, 1);
            CHECK.due("15: fault of " + f[0], p.fault(), f[1]);
        }
    }

    private static void tablesThatDoNotGoTogether() {
        String a = "sum by (a)({})";
        String b = "sum by (b)({})";
        String ab = "sum by (a,b)({})";
        String ba = "sum by (b,a)({})";
        String[][] faults = {
            {a + "+" + a, "0 at 0"}, {a + "+" + b, "5 at 14"}, {a + "*" + ab, "5 at 14"}, {ab + "/" + ba, "5 at 16"}, {a + "-1", "0 at 0"},
            {"1%" + a, "0 at 0"}, {"sum({})+" + a, "0 at 0"}, {"1+" + a + "*" + b, "5 at 16"}, {a + "+" + b + "*" + ab, "5 at 29"},
            {a + "+1+" + b, "5 at 16"}, {"(" + a + "-" + b + ")/(" + ab + "-" + b + ")", "5 at 15"}, {a + "-(" + ab + "+" + b + ")", "5 at 32"},
            {a + "+-" + b, "5 at 14"}, {"1*" + a + "-" + b, "5 at 16"}, {"1-" + a + "+1*" + ab, "5 at 16"},
        };
        Probe p = new Probe();
        for (String[] f : faults) {
            int rows = p.ask(f[0], 0, 1, 1);
            CHECK.due("15: fault of " + f[0], p.fault(), f[1]);
            CHECK.due("15: rows", rows, f[1].equals("0 at 0") ? 0 : -1);
            CHECK.due("16: names()", p.vault.names() == SeriesVault.NONE, rows == -1);
        }
    }

    private static void numbers() {
        String max = "9223372036854775807";
        String[][] answers = {
            {"1+2*3", " 7"}, {"(1+2)*3", " 9"}, {"2-3-4", " -5"}, {"2-(3-4)", " 3"}, {"7/2", " 3"}, {"-7/2", " -3"}, {"7/-2", " -3"},
            {"-7%2", " -1"}, {"7%-2", " 1"}, {"100/10/5", " 2"}, {"7%4*2", " 6"}, {"2*7%4", " 2"}, {"--5", " 5"}, {"-5*-5", " 25"}, {"1--1", " 2"},
            {max + "+1", " -9223372036854775808"}, {"-" + max + "-2", " 9223372036854775807"}, {max + "*2", " -2"},
            {"(-" + max + "-1)/-1", " -9223372036854775808"}, {"(-" + max + "-1)%-1", " 0"}, {"-(-" + max + "-1)", " -9223372036854775808"},
            {"0/5", " 0"}, {"5/0", ""}, {"5%0", ""}, {"5/0+1", ""}, {"1+5/(2-2)", ""}, {"-(1/0)", ""}, {"0*(1/0)", ""}, {"007", " 7"},
        };
        Probe p = new Probe();
        for (String[] a : answers) {
            CHECK.due("15: " + a[0], p.asked(a[0], 0, 1, 1), a[1]);
            CHECK.due("16: names()", p.vault.names(), 0);
        }
        CHECK.due("15: in each cell", p.asked("4-1", 9, 5, 3), " 3 3 3");
        StringBuilder many = new StringBuilder("1");
        for (int i = 0; i < 3000; i++) {
            many.append(i % 2 == 0 ? "+1" : "*1");
        }
        CHECK.due("15: a long one", new Probe().asked(many.toString(), 0, 1, 1), " 1501");
    }

    private static void windows() {
        Probe p = new Probe();
        p.series("a=b");
        p.bulk(0, 0, 1, 9, 2, 10, 4, 19, 8, 20, 16, MAX_TIME, 32);
        CHECK.due("15: edges of windows", p.asked("sum({})", 0, 10, 3), " 3 12 16");
        CHECK.due("15: from 9", p.asked("sum({})", 9, 10, 2), " 6 24");
        CHECK.due("15: from 1", p.asked("sum({})", 1, 9, 1), " 2");
        CHECK.due("15: width 1", p.asked("count({})", 8, 1, 4), " . 1 1 .");
        CHECK.due("15: none in them", p.asked("count({})", 21, 100, 64), "");
        CHECK.due("15: the latest time", p.asked("sum({})", MAX_TIME, 1, 1), " 32");
        CHECK.due("15: the greatest width", p.asked("sum({})", 0, MAX_TIME, 2), " 31 32");
        CHECK.due("15: 64 windows", p.ask("sum({})", 0, MAX_TIME / 63, 64), 1);
        CHECK.due("18: window 0", p.vault.isThere(0, 0), true);
        CHECK.due("18: window 1", p.vault.isThere(0, 1), false);
        CHECK.due("18: window 63", p.vault.isThere(0, 63), true);
        CHECK.due("19: window 63", p.vault.cell(0, 63), 32);
    }

    private static void functions() {
        Probe p = new Probe();
        p.series("a=1");
        p.series("a=2");
        p.bulk(0, 1, 5, 3, -7, 5, 9);
        p.bulk(1, 2, 6, 4, -8);
        String[][] answers = {{"sum", " -4 9"}, {"count", " 4 1"}, {"least", " -8 9"}, {"most", " 6 9"}, {"first", " 5 9"},
            {"latest", " -8 9"}, {"growth", " -15 16"}};
        for (String[] a : answers) {
            CHECK.due("15: " + a[0], p.asked(a[0] + "({})", 0, 5, 2), a[1]);
        }
        p.bulk(1, 6, Long.MAX_VALUE, 7, 1);
        CHECK.due("15: sum wraps", p.asked("sum({a=\"2\"})", 6, 2, 1), " " + Long.MIN_VALUE);
        CHECK.due("15: least", p.asked("least({a=\"2\"})", 6, 2, 1), " 1");
        CHECK.due("15: most", p.asked("most({a=\"2\"})", 6, 2, 1), " " + Long.MAX_VALUE);
    }

    private static void functionsOverParcels() {
        Probe p = filled();
        CHECK.due("15: sum of head and parcels", p.asked("sum({})", 0, 20, 2), " 107 1274");
        CHECK.due("15: by job", p.asked("latest by (job)({})", 0, 100, 1), "| 1000; api| 120; web| -5");
        p.vault.flush();
        p.vault.compact(0);
        CHECK.due("15: sum of a parcel", p.asked("sum({})", 0, 20, 2), " 107 1274");
        CHECK.due("15: growth", p.asked("growth({})", 0, 20, 2), " . 172");
    }

    private static void ties() {
        Probe p = new Probe();
        p.series("a=0");
        p.series("a=1");
        p.series("a=2");
        p.vault.append(1, 10, 21);
        p.vault.append(1, 20, 22);
        p.vault.append(2, 10, 31);
        p.vault.append(2, 20, 32);
        p.vault.flush();
        CHECK.due("15: first of the least series", p.asked("first({})", 0, 99, 1), " 21");
        CHECK.due("15: latest of the least series", p.asked("latest({})", 0, 99, 1), " 22");
        p.vault.append(0, 10, 11);
        p.vault.append(0, 20, 12);
        CHECK.due("15: though it came later", p.asked("first({})", 0, 99, 1), " 11");
        CHECK.due("15: latest, too", p.asked("latest({})", 0, 99, 1), " 12");
        p.vault.append(2, 21, 33);
        CHECK.due("15: a greater time goes before", p.asked("latest({})", 0, 99, 1), " 33");
    }

    private static void growth() {
        Probe p = new Probe();
        p.series("a=b");
        p.series("a=c");
        p.bulk(0, 1, 10, 2, 15, 3, 15, 4, 3, 11, 4);
        CHECK.due("15: growth", p.asked("growth({})", 0, 10, 2), " 8 1");
        CHECK.due("15: the point before, in whatever window", p.asked("growth({})", 11, 10, 1), " 1");
        CHECK.due("15: one with none before it", p.asked("growth({})", 0, 2, 1), "");
        CHECK.due("15: no growth is 0", p.asked("growth({})", 3, 1, 1), " 0");
        p.vault.append(1, 5, 7);
        CHECK.due("15: left out, not 0", p.asked("growth by (a)({})", 0, 10, 1), "b| 8");
        p.vault.append(1, 6, 9);
        CHECK.due("15: of its own series", p.asked("growth({})", 0, 10, 1), " 10");
        p.vault.delete(0, 2, 3);
        CHECK.due("15: one that is seen", p.asked("growth({a=\"b\"})", 0, 10, 1), " 3");
        p.vault.flush();
        p.vault.retain(4);
        CHECK.due("15: below the horizon is none", p.asked("growth({a=\"b\"})", 0, 10, 2), " . 1");
        p.bulk(0, 12, Long.MIN_VALUE, 13, Long.MAX_VALUE);
        CHECK.due("15: it wraps", p.asked("growth({})", 12, 1, 2), " -9223372036854775808 -1");
    }

    private static void matches() {
        Probe p = new Probe();
        String[] texts = {"a=x", "a=xy", "a=y,b=x", "b=x", "c=z"};
        for (int i = 0; i < texts.length; i++) {
            p.series(texts[i]);
            p.vault.append(i, 1, 1L << i);
        }
        String[][] answers = {
            {"", "31"}, {"a=\"x\"", "1"}, {"a!=\"x\"", "30"}, {"a^=\"x\"", "3"}, {"a!^\"x\"", "28"}, {"a=\"\"", "24"}, {"a!=\"\"", "7"},
            {"a^=\"\"", "31"}, {"a!^\"\"", ""}, {"a^=\"x\",a!=\"x\"", "2"}, {"b=\"x\",a!=\"y\"", "8"}, {"q=\"\"", "31"}, {"q=\"x\"", ""},
            {"a=\"X\"", ""}, {"a=\"x \"", ""}, {"a^=\"xyz\"", ""}, {"a=\"abcdefghijklmnopqrstuvwxyz\"", ""}, {"a!=\"x\",a!=\"y\"", "26"},
            {"a=\"x\",a=\"y\"", ""}, {"A=\"x\"", ""}, {"azAZ_09=\"x\"", ""}, {"z=\"\",Z=\"\",_=\"\",__9=\"\",A0=\"\"", "31"},
        };
        for (String[] a : answers) {
            CHECK.due("15: {" + a[0] + "}", p.asked("sum({" + a[0] + "})", 0, 9, 1), a[1].isEmpty() ? "" : " " + a[1]);
        }
    }

    private static void groups() {
        Probe p = filled();
        CHECK.due("15: by job", p.asked("sum by (job) ({})", 0, 20, 2), "| . 1000; api| 107 279; web| . -5");
        CHECK.due("15: by host, job", p.asked("count by (host,job)({})", 0, 40, 1), "|| 1; h1|api| 3; h1|web| 1; h2|api| 2");
        CHECK.due("15: by job, host", p.asked("count by (job,host)({})", 0, 40, 1), "||" + " 1; api|h1| 3; api|h2| 2; web|h1| 1");
        CHECK.due("15: by a name that none has", p.asked("count by (q)({})", 0, 40, 1), "| 7");
        CHECK.due("15: rows with nothing are none", p.asked("sum by (host)({job=\"web\"})", 0, 20, 1), "");
        CHECK.due("16: names()", p.vault.names(), 1);
        Probe q = new Probe();
        String[] values = {"b", "ab", "a", "B", "~", "!", "abc"};
        for (int i = 0; i < values.length; i++) {
            q.series("n=" + values[i]);
            q.vault.append(i, i, i);
        }
        CHECK.due("15: rows by their texts", q.asked("sum by (n)({})", 0, 99, 1), "!| 5; B| 3; a| 2; ab| 1; abc| 6; b| 0; ~| 4");
    }

    private static void twoTables() {
        Probe p = filled();
        CHECK.due("15: the same texts",
                p.asked("sum by (host)({job=\"api\"}) + count by (host)({})", 0, 20, 2), "h1| 101 273; h2| 8 10");
        CHECK.due("15: the first one of the left is not there",
                p.asked("sum by (host)({job=\"api\"}) + sum by (host)({host=\"h2\"})", 0, 20, 2), "h2| 14 18");
        CHECK.due("15: the first one of the right is not there",
                p.asked("sum by (host)({host=\"h2\"}) + sum by (host)({job=\"api\"})", 0, 20, 2), "h2| 14 18");
        CHECK.due("15: none goes with another",
                p.asked("sum by (host)({host=\"h2\"}) + sum by (host)({job=\"web\"})", 0, 20, 2), "");
        CHECK.due("15: nothing in a cell",
                p.asked("sum by (host)({job=\"api\"}) - sum by (host)({job=\"web\"})", 0, 20, 2), "h1| . 275");
        CHECK.due("15: a row with each one", p.asked("sum by (job)({}) * 2", 0, 20, 2), "| . 2000; api| 214 558; web| . -10");
        CHECK.due("15: from the left", p.asked("1000 - sum by (job)({})", 0, 20, 2), "| . 0; api| 893 721; web| . 1005");
        CHECK.due("15: from the left, with order", p.asked("1000 / sum by (job)({})", 0, 20, 2), "| . 1; api| 9 3; web| . -200");
        CHECK.due("15: without names", p.asked("sum({job=\"web\"}) + sum by (job)({})", 0, 20, 2), "| . 995; api| . 274; web| . -10");
        CHECK.due("15: it has no row", p.asked("sum({job=\"q\"}) + sum by (job)({})", 0, 20, 2), "");
        CHECK.due("16: the names of the other", p.vault.names(), 1);
        CHECK.due("15: it has no row, right", p.asked("sum by (job)({}) + sum({job=\"q\"})", 0, 20, 2), "");
        CHECK.due("16: names", p.vault.names(), 1);
        CHECK.due("15: both without names", p.asked("sum({job=\"api\"}) / count({job=\"api\"})", 0, 20, 2), " 53 93");
        CHECK.due("15: operands stay apart",
                p.asked("(1 - sum by (job)({})) - (2 - sum by (job)({}))", 0, 20, 2), "| . -1; api| -1 -1; web| . -1");
        CHECK.due("15: turned round", p.asked("-sum by (job)({})", 0, 20, 2), "| . -1000; api| -107 -279; web| . 5");
        CHECK.due("15: turned twice", p.asked("3--sum({})", 0, 20, 2), " 110 1277");
    }

    private static void nothing() {
        Probe p = new Probe();
        p.series("a=1");
        p.series("a=2");
        p.bulk(0, 1, 0, 11, 6);
        p.bulk(1, 1, 4);
        CHECK.due("15: by 0", p.asked("12 / sum by (a)({})", 0, 10, 2), "1| . 2; 2| 3 .");
        CHECK.due("15: rest by 0", p.asked("12 % sum by (a)({})", 0, 10, 1), "2| 0");
        CHECK.due("15: rows go in each step", p.asked("sum by (a)({}) / (sum by (a)({}) / 5)", 0, 10, 1), "");
        CHECK.due("15: 0 is a number", p.asked("sum by (a)({})", 0, 10, 1), "1| 0; 2| 4");
        CHECK.due("15: cells with nothing", p.asked("sum({a=\"2\"})", 0, 10, 3), " 4 . .");
        CHECK.due("19: a cell with nothing is 0", p.vault.cell(0, 2), 0);
        CHECK.due("15: nothing stays nothing", p.asked("-sum({a=\"2\"})+1", 0, 10, 3), " -3 . .");
    }

    private static void seenAlone() {
        Probe p = filled();
        p.vault.delete(0, 20, 20);
        CHECK.due("15: a deleted point of a parcel", p.asked("sum({host=\"h1\",job=\"api\"})", 0, 100, 1), " 220");
        p.vault.delete(2, 0, 99);
        CHECK.due("15: one of the head", p.asked("sum({job=\"web\"})", 0, 100, 1), "");
        p.vault.retain(25);
        CHECK.due("15: below the horizon", p.asked("count by (job)({})", 0, 100, 1), "| 1; api| 2");
    }

    private static void greatTable() {
        Probe p = new Probe();
        p.vault.format(64, 16);
        for (int s = 0; s < 48; s++) {
            p.series("n=" + (1000 + s));
            p.vault.append(s, s % 64, s);
            p.vault.append(s, 64, 7);
        }
        CHECK.due("15: 48 rows", p.ask("first by (n)({}) + latest by (n)({}) - sum by (n)({})", 0, 1, 64), 48);
        CHECK.due("16: names()", p.vault.names(), 1);
        for (int s = 0; s < 48; s++) {
            CHECK.due("17: its text", p.vault.text(s, 0, 3), '0' + s % 10);
            CHECK.due("18: its window", p.vault.isThere(s, s % 64), true);
            CHECK.due("18: another window", p.vault.isThere(s, (s + 1) % 64), false);
            CHECK.due("19: its cell", p.vault.cell(s, s % 64), s);
        }
    }

    private static void accessors() {
        Probe p = filled();
        CHECK.refused("17: text without a table", Probe.INDEX, () -> p.vault.text(0, 0, 0));
        CHECK.refused("18: isThere without a table", Probe.INDEX, () -> p.vault.isThere(0, 0));
        CHECK.refused("19: cell without a table", Probe.INDEX, () -> p.vault.cell(0, 0));
        CHECK.due("15: rows", p.ask("sum by (job,host)({})", 0, 20, 2), 4);
        CHECK.due("16: names()", p.vault.names(), 2);
        CHECK.due("17: text(0, 0, 0) of nothing", p.vault.text(0, 0, 0), SeriesVault.NONE);
        CHECK.due("17: text(1, 0, 2)", p.vault.text(1, 0, 2), 'i');
        CHECK.due("17: text(1, 0, 3)", p.vault.text(1, 0, 3), SeriesVault.NONE);
        CHECK.due("17: text(1, 0, -1)", p.vault.text(1, 0, -1), SeriesVault.NONE);
        CHECK.due("17: text(2, 1, 1)", p.vault.text(2, 1, 1), '2');
        CHECK.due("17: text(1, 2, 0)", p.vault.text(1, 2, 0), SeriesVault.NONE);
        CHECK.due("17: text(1, -1, 0)", p.vault.text(1, -1, 0), SeriesVault.NONE);
        for (int row : new int[] {-1, 4, Integer.MAX_VALUE, Integer.MIN_VALUE}) {
            CHECK.refused("17: text of row " + row, Probe.INDEX, () -> p.vault.text(row, 0, 0));
            CHECK.refused("18: isThere of row " + row, Probe.INDEX, () -> p.vault.isThere(row, 0));
            CHECK.refused("19: cell of row " + row, Probe.INDEX, () -> p.vault.cell(row, 0));
        }
        for (int window : new int[] {-1, 2, 64, Integer.MAX_VALUE, Integer.MIN_VALUE}) {
            CHECK.refused("18: isThere of window " + window, Probe.INDEX, () -> p.vault.isThere(0, window));
            CHECK.refused("19: cell of window " + window, Probe.INDEX, () -> p.vault.cell(0, window));
        }
        String before = p.table(4, 2);
        p.vault.append(0, 40, 1);
        p.series("job=new");
        p.vault.flush();
        p.vault.off();
        CHECK.due("17: without power", p.table(4, 2), before);
        p.vault.start();
        CHECK.due("17: behind start()", p.table(4, 2), before);
    }
}
