/** A test for each sentence on an edge of part 4 (the text of questions and its faults) and of promise 15. */
public final class QuestionEdgesTest {
    private static final long MAX_TIME = 1099511627775L;
    private static final String MAX = "9223372036854775807";
    private static final Check CHECK = new Check();

    private QuestionEdgesTest() {
    }

    public static void main(String[] args) {
        arguments();
        tapeAndTable();
        tokens();
        numbersAndTexts();
        grammar();
        functionsAndNames();
        ends();
        depth();
        namesAfterBy();
        order();
        tables();
        CHECK.finish("QuestionEdgesTest");
    }

    private static void fault(String text, String want) {
        Probe p = new Probe();
        int rows = p.ask(text, 0, 1, 1);
        CHECK.due("fault of " + text, p.fault(), want);
        CHECK.due("answer of " + text, rows == SeriesVault.NONE, !want.equals("0 at 0"));
        CHECK.due("names() of " + text, p.vault.names() == SeriesVault.NONE, !want.equals("0 at 0"));
    }

    private static void fine(String text) {
        fault(text, "0 at 0");
    }

    private static void fine(String text, long number) {
        Probe p = new Probe();
        CHECK.due(text, p.asked(text, 0, 1, 1), " " + number);
    }

    /** The question is that of the first bytes of the text; the others stood on the tape before end(). */
    private static void cutFault(String text, int length, String want) {
        Probe p = new Probe();
        Tape.put(p.vault, text);
        p.vault.end(length);
        p.vault.ask(0, 1, 1);
        CHECK.due("fault of " + length + " of " + text, p.fault(), want);
    }

    private static void arguments() {
        CHECK.sentence("15: from is no time", () -> {
            for (long from : new long[] {-1, MAX_TIME + 1, Long.MIN_VALUE, Long.MAX_VALUE}) {
                Probe p = new Probe();
                Tape.put(p.vault, "7");
                CHECK.refused("from " + from, Probe.ARGUMENT, () -> p.vault.ask(from, 1, 1));
                CHECK.due("from 0", p.vault.ask(0, 1, 1), 1);
                Tape.put(p.vault, "7");
                CHECK.due("from the latest time", p.vault.ask(MAX_TIME, 1, 1), 1);
            }
        });
        CHECK.sentence("15: width not 1 .. 1099511627775", () -> {
            for (long width : new long[] {0, -1, MAX_TIME + 1, Long.MIN_VALUE, Long.MAX_VALUE}) {
                Probe p = new Probe();
                Tape.put(p.vault, "7");
                CHECK.refused("width " + width, Probe.ARGUMENT, () -> p.vault.ask(0, width, 1));
                CHECK.due("width 1", p.vault.ask(0, 1, 1), 1);
                Tape.put(p.vault, "7");
                CHECK.due("the greatest width", p.vault.ask(0, MAX_TIME, 1), 1);
            }
        });
        CHECK.sentence("15: or n not 1 .. 64", () -> {
            for (int n : new int[] {0, -1, 65, Integer.MIN_VALUE, Integer.MAX_VALUE}) {
                Probe p = new Probe();
                Tape.put(p.vault, "7");
                CHECK.refused("n " + n, Probe.ARGUMENT, () -> p.vault.ask(0, 1, n));
                CHECK.due("n 1", p.vault.ask(0, 1, 1), 1);
                CHECK.refused("window 1 of 1", Probe.INDEX, () -> p.vault.cell(0, 1));
                Tape.put(p.vault, "7");
                CHECK.due("n 64", p.vault.ask(0, 1, 64), 1);
                CHECK.due("window 63 of 64", p.vault.cell(0, 63), 7);
                CHECK.refused("window 64 of 64", Probe.INDEX, () -> p.vault.cell(0, 64));
            }
        });
        CHECK.sentence("15: (behind an exception the tape, the table and what fault() tells are as before)", () -> {
            Probe p = new Probe();
            p.ask("5", 0, 1, 2);
            p.series("q=");
            Tape.put(p.vault, "6");
            CHECK.refused("n 0", Probe.ARGUMENT, () -> p.vault.ask(0, 1, 0));
            CHECK.due("table", p.table(1, 2), " 5 5");
            CHECK.due("fault", p.fault(), "7 at 2");
            p.vault.off();
            CHECK.refused("without power", Probe.STATE, () -> p.vault.ask(0, 1, 1));
            CHECK.due("table", p.table(1, 2), " 5 5");
            CHECK.due("fault", p.fault(), "7 at 2");
            p.vault.start();
            CHECK.due("tape", p.vault.ask(0, 1, 1), 1);
            CHECK.due("table", p.table(1, 1), " 6");
        });
    }

    private static void tapeAndTable() {
        CHECK.sentence("15: the tape (which is empty then)", () -> {
            Probe p = new Probe();
            p.ask("5", 0, 1, 1);
            CHECK.due("behind a table", p.tapeLength(), 0);
            p.ask("5 5", 0, 1, 1);
            CHECK.due("behind a fault", p.tapeLength(), 0);
            p.ask("sum by (a)({})+sum by (b)({})", 0, 1, 1);
            CHECK.due("behind fault 5", p.tapeLength(), 0);
        });
        CHECK.sentence("3: the tape keeps its first n bytes (what stood behind them is gone, for ask())", () -> {
            cutFault("1 !=", 3, "1 at 2");
            cutFault("1 !^", 3, "1 at 2");
            cutFault("1 ^=", 3, "1 at 2");
            cutFault("1+    ", 2, "2 at 2");
            cutFault("1+    ", 4, "2 at 4");
            cutFault("1+2", 2, "2 at 2");
            cutFault("sums", 3, "2 at 3");
            cutFault("sum({})", 6, "2 at 6");
            cutFault("1 \"a\"", 4, "1 at 2");
            cutFault("1 \"\"", 3, "1 at 2");
            cutFault("1 \"ab\"", 4, "1 at 2");
            cutFault("1 \"abc\"", 4, "1 at 2");
            cutFault("1#", 1, "0 at 0");
            cutFault(MAX + "0", 19, "0 at 0");
            cutFault("1)", 1, "0 at 0");
            Probe p = new Probe();
            Tape.put(p.vault, "123");
            p.vault.end(2);
            p.vault.ask(0, 1, 1);
            CHECK.due("12 of 123", p.vault.cell(0, 0), 12);
        });
        CHECK.sentence("15: its table takes the place of the one before", () -> {
            Probe p = new Probe();
            p.series("a=b");
            p.vault.append(0, 1, 1);
            CHECK.due("one", p.asked("sum by (a)({})", 0, 2, 1), "b| 1");
            CHECK.due("another", p.asked("2", 0, 2, 2), " 2 2");
            CHECK.due("names()", p.vault.names(), 0);
            CHECK.refused("row 1", Probe.INDEX, () -> p.vault.cell(1, 0));
        });
        CHECK.sentence("15: NONE, if it has a fault: then there is no table", () -> {
            for (String text : new String[] {"#", "1 1", "(((((((((1", "sum by (a,a)({})", "sum by (a)({})+sum by (b)({})"}) {
                Probe p = new Probe();
                p.ask("5", 0, 1, 1);
                CHECK.due("ask of " + text, p.ask(text, 0, 1, 1), SeriesVault.NONE);
                CHECK.due("names()", p.vault.names(), SeriesVault.NONE);
                CHECK.refused("cell", Probe.INDEX, () -> p.vault.cell(0, 0));
                CHECK.refused("isThere", Probe.INDEX, () -> p.vault.isThere(0, 0));
                CHECK.refused("text", Probe.INDEX, () -> p.vault.text(0, 0, 0));
            }
        });
        CHECK.sentence("15: how many rows it has (none is no fault)", () -> {
            Probe p = new Probe();
            CHECK.due("rows", p.ask("sum({})", 0, 1, 1), 0);
            CHECK.due("names()", p.vault.names(), 0);
            CHECK.due("rows", p.ask("sum by (a,b)({})", 0, 1, 1), 0);
            CHECK.due("names()", p.vault.names(), 2);
            CHECK.due("fault", p.fault(), "0 at 0");
        });
    }

    private static void tokens() {
        CHECK.sentence("Terms 4: 1: at the first byte with which none of these begins", () -> {
            String signs = "+-*/%(){},=";
            for (int letter = 0; letter < 256; letter++) {
                boolean begins = letter == ' ' || signs.indexOf(letter) >= 0 || letter >= '0' && letter <= '9' || letter == '_'
                        || letter >= 'a' && letter <= 'z' || letter >= 'A' && letter <= 'Z';
                if (!begins) {
                    fault("1 " + (char) letter, "1 at 2");
                    fault("" + (char) letter, "1 at 0");
                } else if ("+-*/%".indexOf(letter) >= 0) {
                    fault("1 " + (char) letter, "2 at 3");
                } else if (letter != ' ') {
                    fault("1 " + (char) letter, "2 at 2");
                }
            }
        });
        CHECK.sentence("Terms 4: .. or of != ^= !^ (a ! or ^ alone begins none)", () -> {
            fault("1 !", "1 at 2");
            fault("1 ^", "1 at 2");
            fault("1 ! =", "1 at 2");
            fault("1 ^ =", "1 at 2");
            fault("1 !!", "1 at 2");
            fault("1 ^^", "1 at 2");
            fault("1 !=", "2 at 2");
            fault("1 ^=", "2 at 2");
            fault("1 !^", "2 at 2");
            fault("sum({a!\"b\"})", "1 at 6");
            fault("sum({a^\"b\"})", "1 at 6");
        });
        CHECK.sentence("Terms 4: each as long as may be", () -> {
            fault("sum({a!^=\"b\"})", "2 at 8");
            fault("sum({a!=\"b\"})", "0 at 0");
            fault("sum({a==\"b\"})", "2 at 7");
            fault("sumby(a)({})", "2 at 0");
            fault("sum1({})", "2 at 0");
            fault("12a", "2 at 2");
            fine("sum by(a)({})");
            fine("12", 12);
        });
        CHECK.sentence("Terms 4: blanks (32) may stand before, between and behind them", () -> {
            fine("   1   +   2   ", 3);
            fine("  sum  by  (  a  ,  b  )  (  {  a  =  \"x\"  ,  b  !=  \"y\"  ,  c  ^=  \"\"  ,  d  !^  \"z\"  }  )  ");
            fault("1 2", "2 at 2");
            fault("su m({})", "2 at 0");
            fault("sum b y (a)({})", "2 at 4");
            fault("sum({a! =\"x\"})", "1 at 6");
            fault("1\t", "1 at 1");
        });
    }

    private static void numbersAndTexts() {
        CHECK.sentence("Terms 4: NUMBER: digits, at most 9223372036854775807", () -> {
            fine(MAX, Long.MAX_VALUE);
            fine("0", 0);
            fine("000", 0);
            fine("0000000000" + MAX, Long.MAX_VALUE);
            fine("-" + MAX + "-1", Long.MIN_VALUE);
        });
        CHECK.sentence("Terms 4: 1: at a NUMBER that is more", () -> {
            fault("9223372036854775808", "1 at 0");
            fault("1+9223372036854775808", "1 at 2");
            fault("-9223372036854775808", "1 at 1");
            fault("1 9223372036854775808", "1 at 2");
            fault("9223372036854775817", "1 at 0");
            fault("9300000000000000000", "1 at 0");
            fault("10000000000000000000", "1 at 0");
            fault("18446744073709551616", "1 at 0");
            fault("18446744073709551617", "1 at 0");
            fault("184467440737095516160", "1 at 0");
            fault("99999999999999999999999999999999999999999", "1 at 0");
            fault("09223372036854775808", "1 at 0");
        });
        CHECK.sentence("Terms 4: NAME: a row of letters, digits and _ that begins with no digit", () -> {
            fine("sum({a=\"\",Z=\"\",_=\"\",a1=\"\",_1_a=\"\",zZ90=\"\",A0_z=\"\"})");
            fault("sum({1a=\"\"})", "2 at 5");
            fault("sum({a.b=\"\"})", "1 at 6");
            fault("sum({a-b=\"\"})", "2 at 6");
            fault("sum by (1)({})", "2 at 8");
            fine("sum({abcdefghijklmnopqrstuvwxyzabcdefghijklmnopqrstuvwxyz=\"\"})");
        });
        CHECK.sentence("Terms 4: TEXT: \" and bytes 32 .. 126 without \" and \"", () -> {
            for (int letter = 0; letter < 256; letter++) {
                String text = "sum({a=\"x" + (char) letter + "\"})";
                if (letter == '"') {
                    fault(text, "1 at 10");
                } else {
                    fault(text, letter >= 32 && letter <= 126 ? "0 at 0" : "1 at 7");
                }
            }
            fine("sum({a=\"\"})");
        });
        CHECK.sentence("Terms 4: 1: at a \" that is not ended so", () -> {
            fault("\"", "1 at 0");
            fault("sum({a=\"", "1 at 7");
            fault("sum({a=\"b", "1 at 7");
            fault("sum({a=\"b})", "1 at 7");
            fault("1 \"b\nc\"", "1 at 2");
            fault("1 \"b", "1 at 2");
            fault("1 \"b\"", "2 at 2");
        });
    }

    private static void grammar() {
        CHECK.sentence("Terms 4: exp = term { + term | - term }", () -> {
            fine("1-2-3", -4);
            fine("1-2+3", 2);
            fault("+1", "2 at 0");
            fault("1++1", "2 at 2");
            fine("1--1", 2);
            fault("1+", "2 at 2");
            fault("1-", "2 at 2");
        });
        CHECK.sentence("Terms 4: term = factor { * factor | / factor | % factor }", () -> {
            fine("100/10/5", 2);
            fine("100%7*2", 4);
            fine("2+3*4", 14);
            fine("2*3+4", 10);
            fine("10-6/2", 7);
            fine("10-7%4", 7);
            fault("*1", "2 at 0");
            fault("1*/1", "2 at 2");
            fault("1%", "2 at 2");
            fault("1%%1", "2 at 2");
        });
        CHECK.sentence("Terms 4: factor = NUMBER | - factor | ( exp )", () -> {
            fine("-1", -1);
            fine("--1", 1);
            fine("-(1+2)", -3);
            fine("-1+2", 1);
            fine("-2*3", -6);
            fine("2*-3", -6);
            fine("(1+2)*3", 9);
            fine("((1))", 1);
            fine("7-(2-(3-1))", 7);
            fault("()", "2 at 1");
            fault("(1", "2 at 2");
            fault("1)", "2 at 1");
            fault("(1+)", "2 at 3");
            fault("(1)(2)", "2 at 3");
            fault("1(2)", "2 at 1");
            fault("-", "2 at 1");
            fault("-*1", "2 at 1");
        });
    }

    private static void functionsAndNames() {
        CHECK.sentence("Terms 4: FUNC [ by ( NAME { , NAME } ) ] ( { [ match { , match } ] } )", () -> {
            fine("sum({})");
            fine("sum by (a)({})");
            fine("sum by (a,b)({a=\"b\"})");
            fine("sum({a=\"b\",c!=\"d\",e^=\"f\",g!^\"h\"})");
            fault("sum", "2 at 3");
            fault("sum{}", "2 at 3");
            fault("sum(", "2 at 4");
            fault("sum()", "2 at 4");
            fault("sum({", "2 at 5");
            fault("sum({)", "2 at 5");
            fault("sum({}", "2 at 6");
            fault("sum({}}", "2 at 6");
            fault("sum({,})", "2 at 5");
            fault("sum({a})", "2 at 6");
            fault("sum({a=})", "2 at 7");
            fault("sum({a=b})", "2 at 7");
            fault("sum({a=\"b\",})", "2 at 11");
            fault("sum({a=\"b\"c=\"d\"})", "2 at 10");
            fault("sum({a+\"b\"})", "2 at 6");
            fault("sum({a\"b\"})", "2 at 6");
            fault("sum({a\"b\"\"c\"})", "2 at 6");
            fault("sum({a=!=})", "2 at 7");
            fault("sum({a=^=})", "2 at 7");
            fault("sum({a=!^})", "2 at 7");
            fault("sum({a!=!=\"b\"})", "2 at 8");
            fault("sum({\"a\"=\"b\"})", "2 at 5");
            fault("sum by", "2 at 6");
            fault("sum by a({})", "2 at 7");
            fault("sum by ()({})", "2 at 8");
            fault("sum by (a", "2 at 9");
            fault("sum by (a b)({})", "2 at 10");
            fault("sum by (a,)({})", "2 at 10");
            fault("sum by (,a)({})", "2 at 8");
            fault("sum by (a){}", "2 at 10");
            fault("sum({}) by (a)", "2 at 8");
            fault("sum(({}))", "2 at 4");
            fault("sum(-{})", "2 at 4");
        });
        CHECK.sentence("Terms 4: FUNC is one of sum, count, least, most, first, latest, growth", () -> {
            for (String func : new String[] {"sum", "count", "least", "most", "first", "latest", "growth"}) {
                fine(func + "({})");
                fine(func + " by (a)({})");
                fault(func.toUpperCase() + "({})", "2 at 0");
                fault(func.substring(1) + "({})", "2 at 0");
                fault(func.substring(0, func.length() - 1) + "({})", "2 at 0");
                fault(func + "s({})", "2 at 0");
                fault("x" + func.substring(1) + "({})", "2 at 0");
                fault(func.substring(0, func.length() - 1) + "x({})", "2 at 0");
            }
            fault("last({})", "2 at 0");
            fault("avg({})", "2 at 0");
            fault("a", "2 at 0");
        });
        CHECK.sentence("Terms 4: (so are by and the FUNCs, which are names, too, after by and in matches)", () -> {
            fine("sum by (by,sum,count,least)({most=\"\",first=\"\",latest=\"\",growth=\"\",by=\"\"})");
            fault("sum by by (a)({})", "2 at 7");
            fault("by (a)({})", "2 at 0");
            fault("sum sum({})", "2 at 4");
            fault("sum BY (a)({})", "2 at 4");
            fault("sum bya (a)({})", "2 at 4");
        });
    }

    private static void ends() {
        CHECK.sentence("Terms 4: 2: at the first of them that cannot stand there", () -> {
            fault("1 + ) 2", "2 at 4");
            fault("1 ) 2 )", "2 at 2");
            fault("}", "2 at 0");
            fault("=", "2 at 0");
            fault("1,1", "2 at 1");
            fault("1 sum({})", "2 at 2");
            fault("1 != 1", "2 at 2");
            fault("sum({}) = 1", "2 at 8");
        });
        CHECK.sentence("Terms 4: 2: .. or the end (the tape's length, whatever blanks there are)", () -> {
            fault("", "2 at 0");
            fault(" ", "2 at 1");
            fault("     ", "2 at 5");
            fault("1+", "2 at 2");
            fault("1+   ", "2 at 5");
            fault("(1   ", "2 at 5");
            fault("sum   ", "2 at 6");
            fault("sum by (a   ", "2 at 12");
            fault("sum({a   ", "2 at 9");
        });
    }

    private static void depth() {
        CHECK.sentence("Terms 4: 3: at a ( or a - where a factor may begin with which more than 8 of these are open", () -> {
            fine("((((((((1))))))))", 1);
            fault("(((((((((1)))))))))", "3 at 8");
            fine("--------1", 1);
            fault("---------1", "3 at 8");
            fine("(-(-(-(-1))))", 1);
            fault("(-(-(-(-(1)))))", "3 at 8");
            fault("-(-(-(-(-1))))", "3 at 8");
            fault(" ( ( ( ( ( ( ( ( (", "3 at 17");
            fault("1+(((((((((", "3 at 10");
        });
        CHECK.sentence("Terms 4: 3: (elsewhere it is 2, if it cannot stand there)", () -> {
            fault("((((((((1(", "2 at 9");
            fault("((((((((1)))))))) (", "2 at 18");
            fault("((((((((sum-", "2 at 11");
            fault("((((((((sum by -", "2 at 15");
            fault("((((((((sum((", "2 at 12");
            fault("((((((((sum({(", "2 at 13");
            fine("((((((((3-1))))))))", 2);
            fault("((((((((3--1))))))))", "3 at 10");
            fault("((((((((3-(1))))))))))", "3 at 10");
        });
        CHECK.sentence("Terms 4: 3: (( to its closing one)", () -> {
            fine("((((((((1))))))))+((((((((1))))))))", 2);
            fine("(((((((1)+(1))))))) + 1", 3);
            fine("(1)*(1)*(1)*(1)*(1)*(1)*(1)*(1)*(1)*(1)", 1);
            fault("((((((((1)+((1))))))))))", "3 at 12");
        });
        CHECK.sentence("Terms 4: 3: (but not that of by or of a FUNC)", () -> {
            fine("((((((((sum by (a)({a=\"b\"})))))))))");
            fine("--------sum by (a)({})");
            fine("sum({})+sum({})+sum({})+sum({})+sum({})+sum({})+sum({})+sum({})+sum({})+(1)");
            fault("((((((((sum by (a)({}) + (1", "3 at 25");
        });
        CHECK.sentence("Terms 4: 3: (- to the end of its factor)", () -> {
            fine("-1-1-1-1-1-1-1-1-1-1-1-1", -12);
            fine("-1+-1+-1+-1+-1+-1+-1+-1+-1+-1", -10);
            fine("-1*--------1", -1);
            fine("--------1*--------1", 1);
            fine("-(1)+--------1", 0);
            fault("-(1+--------1)", "3 at 10");
            fault("-(-1*-------1)", "3 at 11");
            fine("-(-1*------1)", 1);
        });
    }

    private static void namesAfterBy() {
        CHECK.sentence("Terms 4: 4: at a NAME after by that was there already", () -> {
            fault("sum by (a,a)({})", "4 at 10");
            fault("sum by (a,b,c,a)({})", "4 at 14");
            fault("sum by ( a , a )({})", "4 at 13");
            fine("sum by (a,A,aa,_a,a1)({})");
            fine("sum by (a)({a=\"\",a=\"\"})");
            fine("sum by (a)({})+sum by (a)({})");
            fault("sum by (a,b)({})+sum by (b,a,b)({})", "4 at 29");
        });
        CHECK.sentence("Terms 4: 4: .. or is the seventh", () -> {
            fine("sum by (a,b,c,d,e,f)({})");
            fault("sum by (a,b,c,d,e,f,g)({})", "4 at 20");
            fault("sum by (a,b,c,d,e,f,a)({})", "4 at 20");
            fault("sum by (a,b,c,d,e,f,", "2 at 20");
            fault("sum by (a,b,c,d,e,f,1)({})", "2 at 20");
            fault("sum by (a,b,c,d,e,f,#)({})", "1 at 20");
        });
        CHECK.sentence("Terms 4: (.. 4 before it is looked at what comes behind the NAME)", () -> {
            fault("sum by (a,a", "4 at 10");
            fault("sum by (a,a#", "4 at 10");
            fault("sum by (a,a a", "4 at 10");
            fault("sum by (a,b,c,d,e,f,g#", "4 at 20");
            fault("sum by (a,a 9223372036854775808", "4 at 10");
        });
    }

    private static void order() {
        CHECK.sentence("Terms 4: the one that is first on the tape counts", () -> {
            fault("1 1 #", "2 at 2");
            fault("# 1 1", "1 at 0");
            fault("(((((((((#", "3 at 8");
            fault("((((((((#(", "1 at 8");
            fault("((((((((1 1 (", "2 at 10");
            fault("sum by (a,a)({}) #", "4 at 10");
            fault("# sum by (a,a)({})", "1 at 0");
            fault("1 + 9223372036854775808 )", "1 at 4");
            fault(") 9223372036854775808", "2 at 0");
            fault("1 1 \"", "2 at 2");
        });
        CHECK.sentence("6: of the latest series() or ask() (one fault behind another)", () -> {
            Probe p = new Probe();
            String[][] faults = {{"1 #", "1 at 2"}, {"1 + )", "2 at 4"}, {"(((((((((", "3 at 8"}, {"sum by (a,a)({})", "4 at 10"},
                {"sum by (a)({})*sum by (b)({})", "5 at 14"}, {"", "2 at 0"}, {"#", "1 at 0"}, {"1", "0 at 0"}, {"1 1", "2 at 2"}};
            for (String[] f : faults) {
                p.ask(f[0], 0, 1, 1);
                CHECK.due("fault of " + f[0], p.fault(), f[1]);
            }
        });
        CHECK.sentence("Terms 4: (at one place: 1, then 2)", () -> {
            fault("1 9223372036854775808", "1 at 2");
            fault("1 \"", "1 at 2");
            fault("sum({\"", "1 at 5");
            fault("sum by (9223372036854775808", "1 at 8");
            fault("sum!", "1 at 3");
        });
        CHECK.sentence("Terms 4: then 5 (behind all others, wherever they are)", () -> {
            fault("sum by (a)({})+sum by (b)({}) #", "1 at 30");
            fault("sum by (a)({})+sum by (b)({}) 1", "2 at 30");
            fault("sum by (a)({})+sum by (b)({})+(((((((((1", "3 at 38");
            fault("sum by (a)({})+sum by (b,b)({})", "4 at 25");
            fault("sum by (a)({})+sum by (b)({})", "5 at 14");
        });
    }

    private static void tables() {
        String a = "sum by (a)({})";
        String b = "sum by (b)({})";
        CHECK.sentence("Terms 4: 5: at the first operator (operands first, from the left)", () -> {
            fault(a + "+" + a + "*" + b, "5 at 29");
            fault(a + "*" + b + "+" + b, "5 at 14");
            fault(a + "+" + b + "+" + b + "*" + a, "5 at 14");
            fault(a + "+(" + b + "-" + a + ")", "5 at 30");
            fault("(" + a + "-" + b + ")+(" + b + "*" + a + ")", "5 at 15");
            fault("1+" + a + "-" + b, "5 at 16");
            fault(a + "-" + a + "-" + b, "5 at 29");
            fault(a + " - -" + b, "5 at 15");
            for (String operator : new String[] {"+", "-", "*", "/", "%"}) {
                fault(a + operator + b, "5 at 14");
            }
        });
        CHECK.sentence("Terms 4: two tables go together when they have the same names in the same order", () -> {
            fine("sum by (a,b)({})+count by (a,b)({})");
            fault("sum by (a,b)({})+sum by (b,a)({})", "5 at 16");
            fault("sum by (a,b)({})+sum by (a)({})", "5 at 16");
            fault("sum by (a)({})+sum by (a,b)({})", "5 at 14");
            fault("sum by (a)({})+sum by (aa)({})", "5 at 14");
            fault("sum by (a)({})+sum by (A)({})", "5 at 14");
        });
        CHECK.sentence("Terms 4: or when one of them has no names", () -> {
            fine(a + "+1");
            fine("1+" + a);
            fine(a + "+sum({})");
            fine("sum({})+" + a);
            fine("sum({})+sum({})");
            fine("1+1");
        });
    }
}
