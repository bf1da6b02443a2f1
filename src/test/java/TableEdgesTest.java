/** A test for each sentence on an edge of what part 4 says of windows, matches and tables, and of promises 16 to 19. */
public final class TableEdgesTest {
    private static final long MAX_TIME = 1099511627775L;
    private static final Check CHECK = new Check();

    private TableEdgesTest() {
    }

    public static void main(String[] args) {
        windows();
        fullWindows();
        matches();
        rows();
        functions();
        firstAndLatest();
        growth();
        growthBefore();
        operators();
        wraps();
        nothing();
        accessors();
        accessorsRefused();
        CHECK.finish("TableEdgesTest");
    }

    /** Series a=0, a=1, .. with these points, time and value in turn, one row for each. */
    private static Probe with(long[]... points) {
        Probe p = new Probe();
        for (int s = 0; s < points.length; s++) {
            p.series("a=" + s);
            p.bulk(s, points[s]);
        }
        return p;
    }

    private static long[] row(long... numbers) {
        return numbers;
    }

    private static void windows() {
        CHECK.sentence("Terms 4: window k has the times from + k * width up to before from + (k + 1) * width", () -> {
            Probe p = with(row(9, 1, 10, 2, 19, 4, 20, 8, 29, 16, 30, 32));
            CHECK.due("two windows", p.asked("sum({})", 10, 10, 2), " 6 24");
            CHECK.due("one window", p.asked("sum({})", 10, 10, 1), " 6");
            CHECK.due("width 1", p.asked("sum({})", 9, 1, 3), " 1 2 .");
            CHECK.due("from 0", p.asked("sum({})", 0, 10, 4), " 1 6 24 32");
        });
        CHECK.sentence("Terms 4: windows that end behind the latest time", () -> {
            Probe p = with(row(0, 1, MAX_TIME - 1, 2, MAX_TIME, 4));
            CHECK.due("the latest time", p.asked("sum({})", MAX_TIME, 1, 2), " 4 .");
            CHECK.due("the greatest width", p.asked("sum({})", 0, MAX_TIME, 2), " 3 4");
            CHECK.due("the greatest width from the latest time", p.asked("sum({})", MAX_TIME, MAX_TIME, 2), " 4 .");
            CHECK.due("64 windows", p.ask("sum({})", 1, MAX_TIME, 64), 1);
            CHECK.due("the first one", p.vault.cell(0, 0), 6);
            CHECK.due("the last one", p.vault.isThere(0, 63), false);
        });
        CHECK.sentence("Terms 4: 64 windows", () -> {
            long[] numbers = new long[2 * 66];
            for (int i = 0; i < 66; i++) {
                numbers[2 * i] = i;
                numbers[2 * i + 1] = i;
            }
            Probe p = with(numbers);
            CHECK.due("rows", p.ask("sum({})", 1, 1, 64), 1);
            for (int w = 0; w < 64; w++) {
                CHECK.due("window " + w, p.vault.cell(0, w), w + 1);
            }
        });
    }

    private static void fullWindows() {
        CHECK.sentence("Terms 4: 64 windows (of one row with names, in each operator)", () -> {
            long[] numbers = new long[2 * 64];
            for (int i = 0; i < 64; i++) {
                numbers[2 * i] = i;
                numbers[2 * i + 1] = i + 1;
            }
            String[][] answers = {{"-sum by (a)({})", "-1 -64"}, {"sum by (a)({})+1", "2 65"}, {"1-sum by (a)({})", "0 -63"},
                {"sum by (a)({})*sum by (a)({})", "1 4096"}, {"128/sum by (a)({})", "128 2"}, {"sum by (a)({})%5", "1 4"}};
            for (String[] a : answers) {
                Probe p = with(numbers);
                CHECK.due(a[0], p.ask(a[0], 0, 1, 64), 1);
                CHECK.due(a[0], p.vault.cell(0, 0) + " " + p.vault.cell(0, 63), a[1]);
                CHECK.due("the last one is there", p.vault.isThere(0, 63), true);
            }
        });
    }

    private static void matches() {
        Probe p = new Probe();
        String[] texts = {"a=x", "a=xy", "a=y,b=x", "b=x", "c=xyz"};
        for (int i = 0; i < texts.length; i++) {
            p.series(texts[i]);
            p.vault.append(i, 1, 1L << i);
        }
        CHECK.sentence("Terms 4: its value of that name (nothing, if it has no such label) is the text; is not", () -> {
            match(p, "a=\"x\"", 1);
            match(p, "a!=\"x\"", 30);
            match(p, "a=\"\"", 24);
            match(p, "a!=\"\"", 7);
            match(p, "q=\"\"", 31);
            match(p, "q!=\"\"", 0);
            match(p, "a=\"X\"", 0);
            match(p, "a=\" x\"", 0);
            match(p, "A=\"x\"", 0);
        });
        CHECK.sentence("Terms 4: begins with it; does not", () -> {
            match(p, "a^=\"x\"", 3);
            match(p, "a!^\"x\"", 28);
            match(p, "a^=\"xy\"", 2);
            match(p, "a!^\"xy\"", 29);
            match(p, "c^=\"xyz\"", 16);
            match(p, "c^=\"xyza\"", 0);
            match(p, "c^=\"yz\"", 0);
        });
        CHECK.sentence("Terms 4: (all, also nothing, begin with nothing)", () -> {
            match(p, "a^=\"\"", 31);
            match(p, "a!^\"\"", 0);
            match(p, "q^=\"\"", 31);
            match(p, "q!^\"x\"", 31);
        });
        CHECK.sentence("Terms 4: for each match (several may have one name)", () -> {
            match(p, "a^=\"x\",a!=\"x\"", 2);
            match(p, "a!=\"x\",a!=\"y\"", 26);
            match(p, "a=\"x\",a=\"y\"", 0);
            match(p, "a=\"y\",b=\"x\"", 4);
            match(p, "", 31);
        });
    }

    private static void match(Probe p, String matches, long want) {
        CHECK.due("{" + matches + "}", p.asked("sum({" + matches + "})", 1, 1, 1), want == 0 ? "" : " " + want);
    }

    private static void rows() {
        CHECK.sentence("Terms 4: those that have the same values of these names (nothing, without the label) make a row together", () -> {
            Probe p = new Probe();
            String[] texts = {"a=1,b=1", "a=1,b=2", "a=2,b=1", "b=1", "c=1"};
            for (int i = 0; i < texts.length; i++) {
                p.series(texts[i]);
                p.vault.append(i, 1, 1L << i);
            }
            CHECK.due("by a", p.asked("sum by (a)({})", 0, 9, 1), "| 24; 1| 3; 2| 4");
            CHECK.due("by b", p.asked("sum by (b)({})", 0, 9, 1), "| 16; 1| 13; 2| 2");
            CHECK.due("by a, b", p.asked("sum by (a,b)({})", 0, 9, 1), "|| 16; |1| 8; 1|1| 1; 1|2| 2; 2|1| 4");
            CHECK.due("by b, a", p.asked("sum by (b,a)({})", 0, 9, 1), "|| 16; 1|| 8; 1|1| 1; 1|2| 4; 2|1| 2");
            CHECK.due("by none", p.asked("sum({})", 0, 9, 1), " 31");
            CHECK.due("by one that none has", p.asked("sum by (q)({})", 0, 9, 1), "| 31");
        });
        CHECK.sentence("Terms 4: rows stand by their texts, the first name first (byte by byte, a beginning before what goes on)", () -> {
            Probe p = new Probe();
            String[] values = {"b", "ab", "a", "B", "~", "!", "abc", "a~"};
            for (int i = 0; i < values.length; i++) {
                p.series("n=" + values[i]);
                p.vault.append(i, 1, i);
            }
            p.series("m=z");
            p.vault.append(8, 1, 8);
            CHECK.due("by n", p.asked("sum by (n)({})", 0, 9, 1), "| 8; !| 5; B| 3; a| 2; ab| 1; abc| 6; a~| 7; b| 0; ~| 4");
        });
        CHECK.sentence("Terms 4: rows with nothing in all cells are none, in each step", () -> {
            Probe p = with(row(1, 5), row(11, 6), row(1, 0));
            CHECK.due("without points in the windows", p.asked("sum by (a)({})", 0, 10, 1), "0| 5; 2| 0");
            CHECK.due("without points at all", p.asked("sum by (a)({})", 20, 10, 1), "");
            CHECK.due("in an operator", p.asked("5/sum by (a)({})", 0, 10, 1), "0| 1");
            CHECK.due("in an operand", p.asked("(5/sum by (a)({}))*0+sum by (a)({})", 0, 10, 1), "0| 5");
            CHECK.due("in a number", p.asked("1/0", 0, 10, 2), "");
        });
        CHECK.sentence("Terms 4: a NUMBER is a table without names, with one row, that number in each cell", () -> {
            Probe p = new Probe();
            CHECK.due("asked", p.asked("7", 5, 3, 4), " 7 7 7 7");
            CHECK.due("names()", p.vault.names(), 0);
            CHECK.refused("row 1", Probe.INDEX, () -> p.vault.cell(1, 0));
        });
        CHECK.sentence("Terms 4: of their points that are seen", () -> {
            Probe p = with(row(1, 1, 2, 2, 3, 4));
            p.vault.flush();
            p.bulk(0, 4, 8, 5, 16);
            p.vault.delete(0, 2, 2);
            p.vault.delete(0, 5, 5);
            CHECK.due("not deleted ones", p.asked("sum({})", 0, 9, 1), " 13");
            p.vault.retain(3);
            CHECK.due("not those below the horizon", p.asked("sum({})", 0, 9, 1), " 12");
        });
    }

    private static void functions() {
        CHECK.sentence("Terms 4: sum: of the values. count: how many", () -> {
            Probe p = with(row(1, 5, 2, -5, 11, 0));
            CHECK.due("sum", p.asked("sum({})", 0, 10, 3), " 0 0 .");
            CHECK.due("count", p.asked("count({})", 0, 10, 3), " 2 1 .");
        });
        CHECK.sentence("Terms 4: least, most: of the values (with a sign)", () -> {
            Probe p = with(row(1, Long.MIN_VALUE, 2, -1, 3, 0, 4, 1, 5, Long.MAX_VALUE, 11, -3, 12, -2, 21, 2, 22, 3));
            CHECK.due("least", p.asked("least({})", 0, 10, 4), " " + Long.MIN_VALUE + " -3 2 .");
            CHECK.due("most", p.asked("most({})", 0, 10, 4), " " + Long.MAX_VALUE + " -2 3 .");
        });
        CHECK.sentence("Terms 4: if there are no points, nothing", () -> {
            Probe p = with(row(1, 5));
            for (String func : new String[] {"sum", "count", "least", "most", "first", "latest"}) {
                CHECK.due(func, p.asked(func + "({})", 0, 2, 2), func.equals("count") ? " 1 ." : " 5 .");
                CHECK.due(func, p.asked(func + "({})", 2, 2, 2), "");
                CHECK.due(func + " of no series", p.asked(func + "({a=\"q\"})", 0, 2, 2), "");
            }
            CHECK.due("growth", p.asked("growth({})", 0, 2, 2), "");
        });
    }

    private static void firstAndLatest() {
        CHECK.sentence("Terms 4: first, latest: the value at the least time, the greatest time", () -> {
            Probe p = with(row(2, 20, 8, 80), row(1, 10, 9, 90), row(5, 50));
            CHECK.due("first", p.asked("first({})", 0, 10, 1), " 10");
            CHECK.due("latest", p.asked("latest({})", 0, 10, 1), " 90");
            CHECK.due("within the window", p.asked("first({})", 2, 7, 1), " 20");
            CHECK.due("within the window", p.asked("latest({})", 2, 7, 1), " 80");
            CHECK.due("one alone", p.asked("latest({})", 5, 1, 1), " 50");
        });
        CHECK.sentence("Terms 4: (of several the one of the least series)", () -> {
            Probe p = with(row(), row(3, 31, 7, 71), row(3, 32, 7, 72));
            CHECK.due("first", p.asked("first({})", 0, 10, 1), " 31");
            CHECK.due("latest", p.asked("latest({})", 0, 10, 1), " 71");
            p.vault.flush();
            p.bulk(0, 3, 30, 7, 70);
            CHECK.due("first, though it came later", p.asked("first({})", 0, 10, 1), " 30");
            CHECK.due("latest, though it came later", p.asked("latest({})", 0, 10, 1), " 70");
            CHECK.due("of those that match", p.asked("latest({a!=\"0\"})", 0, 10, 1), " 71");
            p.vault.delete(0, 3, 3);
            CHECK.due("of those that are seen", p.asked("first({})", 0, 10, 1), " 31");
        });
        CHECK.sentence("Terms 4: first, latest: of the series of the row, in each window", () -> {
            Probe p = new Probe();
            p.series("a=x,n=1");
            p.series("a=y,n=1");
            p.series("a=x,n=2");
            p.bulk(0, 5, 50, 14, 140);
            p.bulk(1, 9, 91, 11, 111);
            p.bulk(2, 7, 72, 12, 122);
            CHECK.due("first", p.asked("first by (a)({})", 0, 10, 2), "x| 50 122; y| 91 111");
            CHECK.due("latest", p.asked("latest by (a)({})", 0, 10, 2), "x| 72 140; y| 91 111");
            CHECK.due("first by n", p.asked("first by (n)({})", 0, 10, 2), "1| 50 111; 2| 72 122");
            CHECK.due("latest by n", p.asked("latest by (n)({})", 0, 10, 2), "1| 91 140; 2| 72 122");
        });
    }

    private static void growth() {
        CHECK.sentence("Terms 4: growth: its value less v, if v is not above it", () -> {
            Probe p = with(row(1, 10, 2, 15, 3, 15, 4, 16));
            CHECK.due("more", p.asked("growth({})", 2, 1, 1), " 5");
            CHECK.due("the same", p.asked("growth({})", 3, 1, 1), " 0");
            CHECK.due("in all", p.asked("growth({})", 0, 10, 1), " 6");
        });
        CHECK.sentence("Terms 4: growth: else its value alone", () -> {
            Probe p = with(row(1, 10, 2, 9, 3, -4, 4, -4, 5, -3));
            CHECK.due("asked", p.asked("growth({})", 1, 1, 5), " . 9 -4 0 1");
        });
        CHECK.sentence("Terms 4: growth: a point with none before it is left out", () -> {
            Probe p = with(row(1, 10, 2, 12), row(5, 100));
            CHECK.due("its window", p.asked("growth({})", 1, 1, 5), " . 2 . . .");
            CHECK.due("by a", p.asked("growth by (a)({})", 0, 10, 1), "0| 2");
        });
        CHECK.sentence("Terms 4: growth wraps", () -> {
            Probe p = with(row(1, Long.MIN_VALUE, 2, Long.MAX_VALUE));
            CHECK.due("asked", p.asked("growth({})", 2, 1, 1), " -1");
        });
    }

    private static void growthBefore() {
        CHECK.sentence("Terms 4: growth: the point before it in its series", () -> {
            Probe p = with(row(1, 10, 4, 13), row(2, 100, 3, 107));
            CHECK.due("3 and 7", p.asked("growth({})", 0, 10, 1), " 10");
            CHECK.due("by a", p.asked("growth by (a)({})", 0, 10, 1), "0| 3; 1| 7");
        });
        CHECK.sentence("Terms 4: growth: (any that is seen, in whatever window)", () -> {
            Probe p = with(row(1, 10, 5, 11, 9, 13));
            CHECK.due("before the first window", p.asked("growth({})", 5, 1, 1), " 1");
            CHECK.due("in the window before", p.asked("growth({})", 1, 4, 3), " . 1 2");
            p.vault.flush();
            p.bulk(0, 12, 20);
            CHECK.due("in a parcel", p.asked("growth({})", 12, 1, 1), " 7");
            p.vault.delete(0, 5, 9);
            CHECK.due("not a deleted one", p.asked("growth({})", 12, 1, 1), " 10");
            p.vault.retain(2);
            CHECK.due("not one below the horizon", p.asked("growth({})", 12, 1, 1), "");
        });
    }

    private static void operators() {
        CHECK.sentence("Terms 4: the same names: then rows with the same texts make a row", () -> {
            Probe p = with(row(1, 5), row(1, 6), row(1, 7));
            CHECK.due("all", p.asked("sum by (a)({})*sum by (a)({})", 0, 9, 1), "0| 25; 1| 36; 2| 49");
            CHECK.due("one of the left", p.asked("sum by (a)({a=\"1\"})+sum by (a)({})", 0, 9, 1), "1| 12");
            CHECK.due("one of the right", p.asked("sum by (a)({})+sum by (a)({a=\"2\"})", 0, 9, 1), "2| 14");
            CHECK.due("some of both", p.asked("sum by (a)({a!=\"0\"})+sum by (a)({a!=\"2\"})", 0, 9, 1), "1| 12");
            CHECK.due("none", p.asked("sum by (a)({a=\"0\"})+sum by (a)({a=\"2\"})", 0, 9, 1), "");
            CHECK.due("names()", p.vault.names(), 1);
            Probe q = with(row(1, 5), row(1, 6), row(1, 7));
            CHECK.due("none", q.asked("sum by (a)({a=\"2\"})+sum by (a)({a=\"0\"})", 0, 9, 1), "");
            Probe r = with(row(1, 5), row(1, 6), row(1, 7));
            CHECK.due("all are behind", r.asked("sum by (a)({a!=\"0\"})+sum by (a)({a=\"0\"})", 0, 9, 1), "");
        });
        CHECK.sentence("Terms 4: one of them has no names: its row goes with each one of the other", () -> {
            Probe p = with(row(1, 5), row(1, 6));
            CHECK.due("right", p.asked("sum by (a)({})-2", 0, 9, 1), "0| 3; 1| 4");
            CHECK.due("left", p.asked("2-sum by (a)({})", 0, 9, 1), "0| -3; 1| -4");
            CHECK.due("a FUNC, left", p.asked("sum({})/sum by (a)({})", 0, 9, 1), "0| 2; 1| 1");
            CHECK.due("a FUNC, right", p.asked("sum by (a)({})%sum({a=\"0\"})", 0, 9, 1), "0| 0; 1| 1");
        });
        CHECK.sentence("Terms 4: (if it has none, there is none)", () -> {
            Probe p = with(row(1, 5), row(1, 6));
            CHECK.due("it has one", p.asked("sum by (a)({})+5", 0, 9, 1), "0| 10; 1| 11");
            CHECK.due("right", p.asked("sum by (a)({})+sum({a=\"q\"})", 0, 9, 1), "");
            CHECK.due("names()", p.vault.names(), 1);
            CHECK.due("it has one", p.asked("5+sum by (a)({})", 0, 9, 1), "0| 10; 1| 11");
            CHECK.due("it has one", p.asked("5+sum by (a)({})", 0, 9, 1), "0| 10; 1| 11");
            CHECK.due("left", p.asked("sum({a=\"q\"})+sum by (a)({})", 0, 9, 1), "");
            CHECK.due("names()", p.vault.names(), 1);
            CHECK.due("both without names", p.asked("sum({a=\"q\"})+1", 0, 9, 1), "");
            CHECK.due("names()", p.vault.names(), 0);
            CHECK.due("both without names", p.asked("1+sum({a=\"q\"})", 0, 9, 1), "");
        });
        CHECK.sentence("Terms 4: - before a table turns all numbers round", () -> {
            Probe p = with(row(1, 5, 11, -6), row(1, 0));
            CHECK.due("asked", p.asked("-sum by (a)({})", 0, 10, 2), "0| -5 6; 1| 0 .");
            CHECK.due("twice", p.asked("--sum by (a)({})", 0, 10, 2), "0| 5 -6; 1| 0 .");
            CHECK.due("of no rows", p.asked("-sum by (a)({a=\"q\"})", 0, 10, 2), "");
            CHECK.due("names()", p.vault.names(), 1);
        });
    }

    private static void wraps() {
        String max = "9223372036854775807";
        Probe p = with(row(1, Long.MAX_VALUE, 2, 1), row(1, Long.MIN_VALUE));
        CHECK.sentence("Terms 4: + and - and * wrap", () -> {
            CHECK.due("+", p.asked(max + "+1", 0, 1, 1), " " + Long.MIN_VALUE);
            CHECK.due("-", p.asked("-" + max + "-2", 0, 1, 1), " " + Long.MAX_VALUE);
            CHECK.due("*", p.asked(max + "*" + max, 0, 1, 1), " 1");
            CHECK.due("* 2", p.asked(max + "*2", 0, 1, 1), " -2");
        });
        CHECK.sentence("Terms 4: a number (64 bits with a sign, wrapping): sums, too", () -> {
            CHECK.due("sum", p.asked("sum({a=\"0\"})", 0, 9, 1), " " + Long.MIN_VALUE);
        });
        CHECK.sentence("Terms 4: - turns the least number round to itself", () -> {
            CHECK.due("-", p.asked("-sum({a=\"1\"})", 0, 9, 1), " " + Long.MIN_VALUE);
        });
        CHECK.sentence("Terms 4: / is cut towards 0, % is its rest", () -> {
            long[][] parts = {{7, 2, 3, 1}, {-7, 2, -3, -1}, {7, -2, -3, 1}, {-7, -2, 3, -1}, {1, 2, 0, 1}, {-1, 2, 0, -1}, {6, 3, 2, 0}, {0, 5, 0, 0}};
            for (long[] part : parts) {
                Probe q = with(row(1, part[0]), row(1, part[1]));
                CHECK.due(part[0] + "/" + part[1], q.asked("sum({a=\"0\"})/sum({a=\"1\"})", 0, 9, 1), " " + part[2]);
                CHECK.due(part[0] + "%" + part[1], q.asked("sum({a=\"0\"})%sum({a=\"1\"})", 0, 9, 1), " " + part[3]);
            }
        });
        CHECK.sentence("Terms 4: / and % of the least number by -1 wrap", () -> {
            CHECK.due("/", p.asked("sum({a=\"1\"})/-1", 0, 9, 1), " " + Long.MIN_VALUE);
            CHECK.due("%", p.asked("sum({a=\"1\"})%-1", 0, 9, 1), " 0");
        });
    }

    private static void nothing() {
        CHECK.sentence("Terms 4: with nothing .. there is nothing", () -> {
            Probe p = with(row(1, 5, 11, 6), row(1, 7, 21, 8));
            for (String operator : new String[] {"+", "-", "*", "/", "%"}) {
                Probe q = with(row(1, 5, 11, 6), row(1, 7, 21, 8));
                q.ask("sum({a=\"0\"})" + operator + "sum({a=\"1\"})", 0, 10, 4);
                CHECK.due(operator, q.vault.isThere(0, 0) + " " + q.vault.isThere(0, 1) + " " + q.vault.isThere(0, 2) + " " + q.vault.isThere(0, 3),
                        "true false false false");
            }
            CHECK.due("with a number", p.asked("0*sum({a=\"0\"})", 0, 10, 4), " 0 0 . .");
            CHECK.due("none in common", p.asked("sum({a=\"0\"})+sum({a=\"1\"})", 11, 5, 3), "");
        });
        CHECK.sentence("Terms 4: or / and % by 0, there is nothing", () -> {
            Probe p = with(row(1, 0, 11, 2));
            CHECK.due("/", p.asked("6/sum({})", 0, 10, 2), " . 3");
            CHECK.due("%", p.asked("7%sum({})", 0, 10, 2), " . 1");
            CHECK.due("in all cells", p.asked("6/sum({})", 0, 10, 1), "");
            CHECK.due("0/0", p.asked("0/0", 0, 10, 1), "");
            CHECK.due("0%0", p.asked("0%0", 0, 10, 1), "");
            CHECK.due("by -0", p.asked("5/-0", 0, 10, 1), "");
            CHECK.due("0 by 5", p.asked("0/5", 0, 10, 1), " 0");
        });
    }

    private static void accessors() {
        CHECK.sentence("16: how many names the table has; NONE without one", () -> {
            Probe p = with(row(1, 5));
            CHECK.due("without one", p.vault.names(), SeriesVault.NONE);
            p.ask("1", 0, 9, 1);
            CHECK.due("a number", p.vault.names(), 0);
            p.ask("sum by (a,b,c,d,e,f)({})", 0, 9, 1);
            CHECK.due("six", p.vault.names(), 6);
            p.ask("1 1", 0, 9, 1);
            CHECK.due("behind a fault", p.vault.names(), SeriesVault.NONE);
            p.ask("sum by (a)({})", 0, 9, 1);
            p.vault.off();
            CHECK.due("without power", p.vault.names(), 1);
            p.vault.format(16, 2);
            CHECK.due("behind a format", p.vault.names(), SeriesVault.NONE);
        });
        CHECK.sentence("17: NONE when there is no such name, or byte", () -> {
            Probe p = new Probe();
            p.series("a=xyz,b=~!");
            p.vault.append(0, 1, 1);
            p.ask("sum by (b,q,a)({})", 0, 9, 1);
            CHECK.due("texts", p.rowText(0, 0) + "|" + p.rowText(0, 1) + "|" + p.rowText(0, 2), "~!||xyz");
            for (int k : new int[] {3, -1, Integer.MIN_VALUE, Integer.MAX_VALUE}) {
                CHECK.due("name " + k, p.vault.text(0, k, 0), SeriesVault.NONE);
            }
            for (int i : new int[] {3, -1, Integer.MIN_VALUE, Integer.MAX_VALUE}) {
                CHECK.due("byte " + i, p.vault.text(0, 2, i), SeriesVault.NONE);
            }
            CHECK.due("a byte of nothing", p.vault.text(0, 1, 0), SeriesVault.NONE);
            p.ask("1", 0, 9, 1);
            CHECK.due("a name of a number", p.vault.text(0, 0, 0), SeriesVault.NONE);
        });
        CHECK.sentence("18: whether there is a number in a cell", () -> {
            Probe p = with(row(1, 0, 21, 5));
            p.ask("sum({})", 0, 10, 3);
            CHECK.due("a 0", p.vault.isThere(0, 0), true);
            CHECK.due("nothing", p.vault.isThere(0, 1), false);
            CHECK.due("a 5", p.vault.isThere(0, 2), true);
        });
        CHECK.sentence("19: the number in a cell; 0 for nothing", () -> {
            Probe p = with(row(1, 7, 21, 5));
            p.ask("3-sum({})", 0, 10, 3);
            CHECK.due("-4", p.vault.cell(0, 0), -4);
            CHECK.due("nothing", p.vault.cell(0, 1), 0);
            p.ask("sum({})/(sum({})-5)", 0, 10, 3);
            CHECK.due("3", p.vault.cell(0, 0), 3);
            CHECK.due("nothing, that was 5 by 0", p.vault.cell(0, 2), 0);
            CHECK.due("it is not there", p.vault.isThere(0, 2), false);
        });
    }

    private static void accessorsRefused() {
        CHECK.sentence("17, 18, 19: there is no such row", () -> {
            Probe p = with(row(1, 5), row(1, 6));
            p.ask("sum by (a)({})", 0, 9, 2);
            for (int r : new int[] {2, -1, 256, Integer.MIN_VALUE, Integer.MAX_VALUE}) {
                CHECK.refused("text of row " + r, Probe.INDEX, () -> p.vault.text(r, 0, 0));
                CHECK.refused("isThere of row " + r, Probe.INDEX, () -> p.vault.isThere(r, 0));
                CHECK.refused("cell of row " + r, Probe.INDEX, () -> p.vault.cell(r, 0));
            }
            CHECK.refused("no such row goes before no such name", Probe.INDEX, () -> p.vault.text(2, 5, 5));
            CHECK.due("the last row", p.vault.cell(1, 0), 6);
            p.ask("sum({a=\"q\"})", 0, 9, 2);
            CHECK.refused("text of no rows", Probe.INDEX, () -> p.vault.text(0, 0, 0));
            CHECK.refused("isThere of no rows", Probe.INDEX, () -> p.vault.isThere(0, 0));
            CHECK.refused("cell of no rows", Probe.INDEX, () -> p.vault.cell(0, 0));
        });
        CHECK.sentence("18, 19: there is no such window", () -> {
            Probe p = with(row(1, 5), row(1, 6));
            p.ask("sum by (a)({})", 0, 9, 2);
            for (int w : new int[] {2, -1, 63, 64, Integer.MIN_VALUE, Integer.MAX_VALUE}) {
                CHECK.refused("isThere of window " + w, Probe.INDEX, () -> p.vault.isThere(0, w));
                CHECK.refused("cell of window " + w, Probe.INDEX, () -> p.vault.cell(0, w));
            }
            CHECK.due("the last window", p.vault.isThere(0, 1), false);
        });
        CHECK.sentence("17, 18, 19: what comes behind ask() leaves the table", () -> {
            Probe p = with(row(1, 5), row(1, 6));
            p.ask("sum by (a)({})", 0, 9, 2);
            p.vault.append(0, 2, 100);
            p.vault.delete(1, 1, 1);
            p.vault.flush();
            p.vault.retain(2);
            p.series("a=9");
            CHECK.due("table", p.table(2, 2), "0| 5 .; 1| 6 .");
        });
    }
}
