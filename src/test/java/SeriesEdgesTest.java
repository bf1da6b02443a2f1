/** A test for each sentence on an edge of part 1 (series and points) and of promises 1 to 7 and 22. */
public final class SeriesEdgesTest {
    private static final long MAX_TIME = 1099511627775L;
    private static final String W23 = "abcdefghijklmnopqrstuvw";
    private static final String SIX = "a=1,b=2,c=3,d=4,e=5,f=6";
    private static final Check CHECK = new Check();

    private SeriesEdgesTest() {
    }

    public static void main(String[] args) {
        words();
        times();
        newObject();
        tape();
        format();
        series();
        seriesFaults();
        seriesRefused();
        faultAndLetter();
        last();
        CHECK.finish("SeriesEdgesTest");
    }

    private static boolean isOfWord(int letter) {
        return letter >= 33 && letter <= 126 && "\"=,(){}".indexOf(letter) < 0;
    }

    private static void fault(String text, String want) {
        Probe p = new Probe();
        CHECK.due("series() of " + text, p.series(text), SeriesVault.NONE);
        CHECK.due("fault of " + text, p.fault(), want);
        CHECK.due("series", p.vault.count(0), 0);
        CHECK.due("records", p.vault.count(6), 0);
    }

    private static void fine(String text, String want) {
        Probe p = new Probe();
        CHECK.due("series() of " + text, p.series(text), 0);
        CHECK.due("fault of " + text, p.fault(), "0 at 0");
        CHECK.due("text", p.textOf(0), want);
    }

    private static void words() {
        CHECK.sentence("Terms 1: bytes 33 .. 126 without \" = , ( ) { } (in names)", () -> {
            for (int letter = 0; letter < 256; letter++) {
                String text = "x" + (char) letter + "=v";
                if (isOfWord(letter)) {
                    fine(text, text);
                } else {
                    fault(text, letter == '=' ? "7 at 2" : "7 at 1");
                }
            }
        });
        CHECK.sentence("Terms 1: bytes 33 .. 126 without \" = , ( ) { } (in values)", () -> {
            for (int letter = 0; letter < 256; letter++) {
                String text = "a=x" + (char) letter;
                if (isOfWord(letter)) {
                    fine(text, text);
                } else {
                    fault(text, letter == ',' ? "7 at 4" : "7 at 3");
                }
            }
        });
        CHECK.sentence("Terms 1: a row of 1 to 24 bytes (1, and no byte)", () -> {
            fine("a=b", "a=b");
            fault("=b", "7 at 0");
            fault("a=", "7 at 2");
            fault("a=,b=c", "7 at 2");
            fault("a=b,=c", "7 at 4");
        });
        CHECK.sentence("Terms 1: a row of 1 to 24 bytes (24 and 25)", () -> {
            fine(W23 + "x=1", W23 + "x=1");
            fault(W23 + "xy=1", "7 at 24");
            fault(W23 + "xy", "7 at 24");
            fine("n=" + W23 + "x", "n=" + W23 + "x");
            fault("n=" + W23 + "xy", "7 at 26");
            fine("n=" + W23 + "x,m=1", "m=1,n=" + W23 + "x");
            fine(W23 + "x=" + W23 + "x", W23 + "x=" + W23 + "x");
        });
        CHECK.sentence("Terms 1: a row of 1 to 6 labels", () -> {
            fault("", "7 at 0");
            fine("a=1", "a=1");
            fine(SIX, SIX);
            fault(SIX + ",g=7", "8 at 24");
        });
        CHECK.sentence("Terms 1: no two have the same name", () -> {
            fault("a=1,a=1", "8 at 4");
            fine("a=1,b=1", "a=1,b=1");
            fine("a=1,A=1", "A=1,a=1");
            fine("a=1,ab=2", "a=1,ab=2");
            fine("ab=1,b=2,a=3", "a=3,ab=1,b=2");
            fault(W23 + "x=1," + W23 + "x=2", "8 at 27");
            fine(W23 + "x=1," + W23 + "y=2", W23 + "x=1," + W23 + "y=2");
        });
        CHECK.sentence("Terms 1: by rising names (byte by byte; the beginning of a word is less than the word)", () -> {
            fine("ab=1,a=2", "a=2,ab=1");
            fine("abc=1,abb=2,ab=3,b=4,a=5", "a=5,ab=3,abb=2,abc=1,b=4");
            fine("~=1,!=2", "!=2,~=1");
            fine("a~=1,b=2,a=3", "a=3,a~=1,b=2");
            fine("b=1,a~~~~~~=2", "a~~~~~~=2,b=1");
            fine("f=1,e=2,d=3,c=4,b=5,a=6", "a=6,b=5,c=4,d=3,e=2,f=1");
        });
        CHECK.sentence("Terms 1: its text is its labels, each as name=value, with , between them (the longest one)", () -> {
            Probe p = new Probe();
            StringBuilder text = new StringBuilder();
            for (char c = 'a'; c < 'g'; c++) {
                text.append(c > 'a' ? "," : "").append(c).append(W23).append('=').append(W23).append(c);
            }
            CHECK.due("series()", p.series(text.toString()), 0);
            CHECK.due("bytes", text.length(), 299);
            CHECK.due("text", p.textOf(0), text.toString());
            CHECK.due("units", p.vault.count(5), 11);
        });
    }

    private static void times() {
        CHECK.sentence("Terms 1: a time, 0 .. 1099511627775", () -> {
            Probe p = new Probe();
            p.series("a=b");
            p.series("a=c");
            CHECK.refused("-1", Probe.ARGUMENT, () -> p.vault.append(0, -1, 0));
            CHECK.refused("the least number", Probe.ARGUMENT, () -> p.vault.append(0, Long.MIN_VALUE, 0));
            CHECK.due("0", p.vault.append(0, 0, 0), 1);
            CHECK.refused("one too late", Probe.ARGUMENT, () -> p.vault.append(1, MAX_TIME + 1, 0));
            CHECK.refused("the greatest number", Probe.ARGUMENT, () -> p.vault.append(1, Long.MAX_VALUE, 0));
            CHECK.due("the latest", p.vault.append(1, MAX_TIME, 0), 2);
            CHECK.due("last", p.vault.last(1), MAX_TIME);
        });
        CHECK.sentence("Terms 1: a value, 64 bits with a sign", () -> {
            long[] values = {0, -1, 1, Long.MIN_VALUE, Long.MAX_VALUE, 0x0123456789abcdefL, 0xfedcba9876543210L};
            Probe p = new Probe();
            p.series("a=b");
            for (int i = 0; i < values.length; i++) {
                p.vault.append(0, i, values[i]);
            }
            p.vault.sync();
            p.vault.off();
            p.vault.start();
            seeValues(p, values);
            p.vault.flush();
            seeValues(p, values);
        });
        CHECK.sentence("Terms 1: points come by rising times", () -> {
            Probe p = new Probe();
            p.series("a=b");
            p.vault.append(0, 7, 0);
            CHECK.refused("the same", Probe.ARGUMENT, () -> p.vault.append(0, 7, 0));
            CHECK.refused("one less", Probe.ARGUMENT, () -> p.vault.append(0, 6, 0));
            CHECK.due("one more", p.vault.append(0, 8, 0), 2);
        });
        CHECK.sentence("Terms 1: the horizon is a time, 0 at first", () -> {
            Probe p = new Probe();
            p.series("a=b");
            CHECK.due("it is 0", p.vault.retain(0), 0);
            CHECK.due("nothing is done", p.vault.written(), 0);
            CHECK.due("a point at 0", p.vault.append(0, 0, 0), 1);
            CHECK.due("it is seen", p.vault.count(8), 1);
        });
        CHECK.sentence("Terms 1: a point is seen if its time is not below the horizon", () -> {
            Probe p = new Probe();
            p.series("a=b");
            p.bulk(0, 1, 1, 2, 2, 3, 3);
            p.vault.flush();
            p.bulk(0, 4, 4, 5, 5, 6, 6);
            p.vault.retain(2);
            CHECK.due("of a parcel at it", p.vault.parcel(0, 1), 2);
            CHECK.due("asked", p.asked("first({})", 0, 1, 4), " . . 2 3");
            p.vault.retain(5);
            CHECK.due("of the head at it", p.vault.count(1), 2);
            CHECK.due("asked", p.asked("first({})", 3, 1, 4), " . . 5 6");
        });
    }

    private static void seeValues(Probe p, long[] values) {
        CHECK.due("rows", p.ask("sum({})", 0, 1, values.length), 1);
        for (int i = 0; i < values.length; i++) {
            CHECK.due("value " + i, p.vault.cell(0, i), values[i]);
        }
    }

    private static void newObject() {
        CHECK.sentence("1: a new disk of 64 blocks, 8 of them for the journal", () -> {
            Probe p = new Probe();
            CHECK.due("counts", p.counts(), "0 0 0 0 54 0 0 0 0");
            CHECK.due("written", p.vault.written(), 0);
            CHECK.refused("the power is on", Probe.STATE, () -> p.vault.start());
            p.series("a=b");
            CHECK.due("no cut is set", p.vault.sync(), true);
        });
        CHECK.sentence("1: an empty tape", () -> {
            Probe p = new Probe();
            CHECK.refusedAct("end(1)", Probe.ARGUMENT, () -> p.vault.end(1));
            CHECK.due("series() of it", p.vault.series(), SeriesVault.NONE);
            CHECK.due("fault", p.fault(), "7 at 0");
            Probe q = new Probe();
            CHECK.due("ask() of it", q.vault.ask(0, 1, 1), SeriesVault.NONE);
            CHECK.due("fault", q.fault(), "2 at 0");
            CHECK.due("feed", new Probe().vault.feed(1, 2, 3, 4, 5), 20);
        });
        CHECK.sentence("1: no table", () -> {
            Probe p = new Probe();
            CHECK.due("names()", p.vault.names(), SeriesVault.NONE);
            CHECK.refused("text", Probe.INDEX, () -> p.vault.text(0, 0, 0));
            CHECK.refused("isThere", Probe.INDEX, () -> p.vault.isThere(0, 0));
            CHECK.refused("cell", Probe.INDEX, () -> p.vault.cell(0, 0));
        });
    }

    private static void tape() {
        CHECK.sentence("2: twenty bytes more of the tape, the highest of each number first: how many it has", () -> {
            Probe p = new Probe();
            p.series("a=b");
            CHECK.due("20", p.vault.feed(0, 0x00000080, 0x80818283, 0xfcfdfeff, 0x00000000), 20);
            CHECK.due("40", p.vault.feed(0x00000081, 0x7fffffff, 0x00010203, 0, 0), 40);
            p.vault.end(32);
            CHECK.due("two points", p.vault.bulk(0), 2);
            CHECK.due("the first one", p.asked("sum({})", 0x80, 1, 2), " " + 0x80818283fcfdfeffL + " " + 0x7fffffff00010203L);
        });
        CHECK.sentence("2: twenty bytes more (behind end())", () -> {
            Probe p = new Probe();
            p.vault.feed(0x613d6200, 0, 0, 0, 0);
            p.vault.end(3);
            CHECK.due("feed", p.vault.feed(0x2c633d64, 0, 0, 0, 0), 23);
            p.vault.end(7);
            p.vault.series();
            CHECK.due("text", p.textOf(0), "a=b,c=d");
        });
        CHECK.sentence("3: the tape keeps its first n bytes", () -> {
            Probe p = new Probe();
            Tape.put(p.vault, "abc=def,g=h");
            p.vault.end(11);
            CHECK.due("all of them", p.tapeLength(), 11);
            p.vault.end(6);
            p.vault.series();
            CHECK.due("text", p.textOf(0), "abc=de");
            Tape.put(p.vault, "q=r");
            p.vault.end(0);
            CHECK.due("none of them", p.tapeLength(), 0);
            p.vault.end(0);
        });
        CHECK.sentence("3: the tape keeps its first n bytes (what stood behind them is gone, for series())", () -> {
            String[][] cuts = {{"a=b,c=d", "3", "0 at 0"}, {"a=b,c=d", "4", "7 at 4"}, {"a=b,c=d", "5", "7 at 5"}, {"a=b,c=d", "6", "7 at 6"},
                {"a=b", "2", "7 at 2"}, {"a=b", "1", "7 at 1"}, {"a=b", "0", "7 at 0"}, {"a=bc", "3", "0 at 0"}};
            for (String[] c : cuts) {
                Probe p = new Probe();
                Tape.put(p.vault, c[0]);
                p.vault.end(Integer.parseInt(c[1]));
                CHECK.due("series() of " + c[1] + " of " + c[0], p.vault.series(), c[2].equals("0 at 0") ? 0 : -1);
                CHECK.due("its fault", p.fault(), c[2]);
                CHECK.due("its text", c[2].equals("0 at 0") ? p.textOf(0) : "a=b", "a=b");
            }
        });
        CHECK.sentence("3: n is below 0", () -> {
            Probe p = new Probe();
            Tape.put(p.vault, "a=b");
            CHECK.refusedAct("end(-1)", Probe.ARGUMENT, () -> p.vault.end(-1));
            CHECK.refusedAct("end(least)", Probe.ARGUMENT, () -> p.vault.end(Integer.MIN_VALUE));
            CHECK.due("the tape stays", p.tapeLength(), 3);
        });
        CHECK.sentence("3: or it has not so many", () -> {
            Probe p = new Probe();
            Tape.put(p.vault, "a=b");
            CHECK.refusedAct("end(4)", Probe.ARGUMENT, () -> p.vault.end(4));
            CHECK.refusedAct("end(20): what end() took is gone", Probe.ARGUMENT, () -> p.vault.end(20));
            CHECK.refusedAct("end(greatest)", Probe.ARGUMENT, () -> p.vault.end(Integer.MAX_VALUE));
            CHECK.due("the tape stays", p.tapeLength(), 3);
        });
        CHECK.sentence("2, 3: no exception without power", () -> {
            Probe p = new Probe();
            p.vault.off();
            CHECK.due("feed", p.vault.feed(0x613d6200, 0, 0, 0, 0), 20);
            p.vault.end(3);
            p.vault.start();
            CHECK.due("series()", p.vault.series(), 0);
        });
    }

    /** A vault with a parcel, a scar, a horizon, a head, a table, a fault, three bytes and a cut. */
    private static Probe used() {
        Probe p = new Probe();
        p.series("a=b");
        p.bulk(0, 5, 5, 6, 6, 7, 7);
        p.vault.flush();
        p.vault.delete(0, 6, 6);
        p.vault.retain(6);
        p.vault.append(0, 8, 8);
        p.ask("1", 0, 1, 1);
        p.series("a=");
        Tape.put(p.vault, "x=y");
        p.vault.cut(0);
        return p;
    }

    private static void format() {
        CHECK.sentence("4: blocks are not 16 .. 256", () -> {
            for (int blocks : new int[] {15, 257, 0, -16, Integer.MIN_VALUE, Integer.MAX_VALUE}) {
                Probe p = new Probe();
                CHECK.refusedAct("format(" + blocks + ", 2)", Probe.ARGUMENT, () -> p.vault.format(blocks, 2));
                CHECK.due("free", p.vault.count(4), 54);
            }
            for (int blocks : new int[] {16, 17, 255, 256}) {
                Probe p = new Probe();
                p.vault.format(blocks, 2);
                CHECK.due("free", p.vault.count(4), blocks - 4);
            }
        });
        CHECK.sentence("4: those for the journal not 2 .. blocks - 8", () -> {
            int[][] wrong = {{16, 1}, {16, 9}, {256, 1}, {256, 249}, {100, 93}, {64, 0}, {64, -2}, {64, Integer.MIN_VALUE}, {64, Integer.MAX_VALUE}};
            for (int[] w : wrong) {
                Probe p = new Probe();
                CHECK.refusedAct("format(" + w[0] + ", " + w[1] + ")", Probe.ARGUMENT, () -> p.vault.format(w[0], w[1]));
                CHECK.due("free", p.vault.count(4), 54);
            }
            for (int[] r : new int[][] {{16, 2}, {16, 8}, {100, 92}, {256, 248}}) {
                Probe p = new Probe();
                p.vault.format(r[0], r[1]);
                CHECK.due("free", p.vault.count(4), r[0] - r[1] - 2);
            }
        });
        CHECK.sentence("4: with so many for the journal", () -> {
            Probe p = new Probe();
            p.vault.format(16, 3);
            p.series("a=b");
            CHECK.due("points", p.bulkOf(0, 0, 380), 3 * 126 - 2);
        });
        CHECK.sentence("4: another disk, a new one", () -> {
            Probe p = used();
            p.vault.format(16, 2);
            CHECK.due("counts", p.counts(), "0 0 0 0 12 0 0 0 0");
            CHECK.due("written", p.vault.written(), 0);
            CHECK.refused("last", Probe.INDEX, () -> p.vault.last(0));
            CHECK.due("series", p.series("c=d"), 0);
            CHECK.due("last", p.vault.last(0), -1);
            CHECK.due("the horizon is 0", p.vault.append(0, 0, 0), 1);
            p.vault.sync();
            p.vault.off();
            CHECK.due("start()", p.vault.start(), 2);
            CHECK.due("counts", p.counts(), "1 1 0 0 12 3 2 2 1");
        });
        CHECK.sentence("4: the power is on", () -> {
            Probe p = used();
            p.vault.off();
            p.vault.format(16, 2);
            CHECK.refused("it is on", Probe.STATE, () -> p.vault.start());
            CHECK.due("series", p.vault.count(0), 0);
        });
        CHECK.sentence("4: no cut is set", () -> {
            Probe p = used();
            p.vault.format(16, 2);
            p.series("c=d");
            CHECK.due("sync()", p.vault.sync(), true);
        });
        CHECK.sentence("4: there is no table (the tape and what fault() tells stay)", () -> {
            Probe p = used();
            p.vault.format(16, 2);
            CHECK.due("names()", p.vault.names(), SeriesVault.NONE);
            CHECK.refused("cell", Probe.INDEX, () -> p.vault.cell(0, 0));
            CHECK.due("fault", p.fault(), "7 at 2");
            CHECK.due("the tape", p.vault.series(), 0);
            CHECK.due("text", p.textOf(0), "x=y");
        });
        CHECK.sentence("4: a refused one changes nothing", () -> {
            Probe p = used();
            String before = p.everything();
            CHECK.refusedAct("format(15, 2)", Probe.ARGUMENT, () -> p.vault.format(15, 2));
            CHECK.due("state", p.everything(), before);
            CHECK.refused("the cut stays", Probe.STATE, () -> p.vault.sync());
            CHECK.refusedAct("format(16, 9)", Probe.ARGUMENT, () -> p.vault.format(16, 9));
            CHECK.due("the power is still off: start()", p.vault.start(), 1);
        });
    }

    private static void series() {
        CHECK.sentence("5: its labels in any order: its number; it is a new one, if there was none such", () -> {
            Probe p = new Probe();
            CHECK.due("a new one", p.series("a=1,b=2"), 0);
            CHECK.due("in another order", p.series("b=2,a=1"), 0);
            CHECK.due("values the other way", p.series("a=2,b=1"), 1);
            CHECK.due("a label less", p.series("a=1"), 2);
            CHECK.due("a label more", p.series("a=1,b=2,c=3"), 3);
            CHECK.due("a value that begins so", p.series("a=1,b=22"), 4);
            CHECK.due("records", p.vault.count(6), 5);
            CHECK.due("again", p.series("c=3,b=2,a=1"), 3);
            CHECK.due("series", p.vault.count(0), 5);
            CHECK.due("records", p.vault.count(6), 5);
        });
        CHECK.sentence("5: the tape (which is empty then)", () -> {
            Probe p = new Probe();
            p.series("a=1");
            CHECK.due("of a new one", p.tapeLength(), 0);
            p.series("a=1");
            CHECK.due("of one that was there", p.tapeLength(), 0);
            p.series("a=1(");
            CHECK.due("of one with a fault", p.tapeLength(), 0);
        });
        CHECK.sentence("5: the table stays in any case", () -> {
            Probe p = new Probe();
            p.ask("5", 0, 1, 2);
            p.series("a=1");
            CHECK.due("of a new one", p.table(1, 2), " 5 5");
            p.series("a=1(");
            CHECK.due("of one with a fault", p.table(1, 2), " 5 5");
        });
        CHECK.sentence("Terms 2: a new series has 1, and 1 for each 32 bytes of its text, or part of 32", () -> {
            for (int bytes : new int[] {3, 31, 32, 33, 64, 65, 96, 97}) {
                Probe p = new Probe();
                p.series(textOf(bytes));
                CHECK.due("units of " + bytes, p.vault.count(5), 1 + (bytes + 31) / 32);
                CHECK.due("records", p.vault.count(6), 1);
                CHECK.due("bytes", p.textOf(0).length(), bytes);
            }
        });
    }

    /** The text of a series that has so many bytes. */
    private static String textOf(int bytes) {
        StringBuilder text = new StringBuilder("a=");
        for (char name = 'b'; bytes - text.length() > 24; name++) {
            int value = Math.min(24, bytes - text.length() - 4);
            text.append("v".repeat(value)).append(',').append(name).append('=');
        }
        return text.append("v".repeat(bytes - text.length())).toString();
    }

    private static void seriesFaults() {
        CHECK.sentence("5: 7 at the first byte that cannot stand there", () -> {
            fault("(a=1", "7 at 0");
            fault("a(=1", "7 at 1");
            fault("a,b=1", "7 at 1");
            fault("a==1", "7 at 2");
            fault("a=(1", "7 at 2");
            fault("a=1(", "7 at 3");
            fault("a=1=", "7 at 3");
            fault("a=1 ", "7 at 3");
            fault("a=1, b=2", "7 at 4");
            fault("a=1,,", "7 at 4");
            fault("a=1,=2", "7 at 4");
            fault("a=1,b,c=3", "7 at 5");
        });
        CHECK.sentence("5: 7 at .. the end", () -> {
            fault("", "7 at 0");
            fault("a", "7 at 1");
            fault("a=", "7 at 2");
            fault("a=1,", "7 at 4");
            fault("a=1,b", "7 at 5");
            fault("a=1,b=", "7 at 6");
            fault(SIX + ",", "7 at 24");
            fault(W23 + "x", "7 at 24");
        });
        CHECK.sentence("5: 8 at the first byte of a name, once its = is there, that was there already", () -> {
            fault("a=1,a=2", "8 at 4");
            fault("a=1,a=", "8 at 4");
            fault("a=1,a", "7 at 5");
            fault("a=1,a,", "7 at 5");
            fault("a=1,a(=2", "7 at 5");
            fault("a=1,b=2,c=3,b=4", "8 at 12");
            fault("abc=1,ab=2,abc=3", "8 at 11");
            fault("a=b,b=a,a=", "8 at 8");
        });
        CHECK.sentence("5: 8 .. or is the seventh", () -> {
            fault(SIX + ",g=7", "8 at 24");
            fault(SIX + ",g=", "8 at 24");
            fault(SIX + ",g", "7 at 25");
            fault(SIX + ",g(", "7 at 25");
            fault(SIX + ",a=7", "8 at 24");
            fault(SIX + ",g=7,h=8", "8 at 24");
            fine(SIX, SIX);
        });
        CHECK.sentence("5: the one with the lesser place", () -> {
            fault("a=1,a=(", "8 at 4");
            fault("a=(,a=1", "7 at 2");
            fault("a=1,a=2,a=3", "8 at 4");
            fault("a=1,b=2,a=3,b=(", "8 at 8");
            fault("a=1,b=(,a=3", "7 at 6");
        });
    }

    /** The journal has two blocks, with 251 of their 252 units filled: a series has no room, a point has. */
    private static Probe nearlyFull() {
        Probe p = new Probe();
        p.vault.format(16, 2);
        p.series("a=b");
        p.bulkOf(0, 0, 249);
        p.ask("7", 0, 1, 1);
        p.series("a=");
        Tape.put(p.vault, "c=d");
        return p;
    }

    private static void seriesRefused() {
        CHECK.sentence("5: no room in the journal", () -> {
            Probe p = nearlyFull();
            int written = p.vault.written();
            p.vault.cut(0);
            CHECK.refused("2 units in 1", Probe.UNSUPPORTED, () -> p.vault.series());
            CHECK.due("nothing is written", p.vault.written(), written);
            CHECK.due("counts", p.counts(), "1 249 0 0 12 251 250 125 249");
            CHECK.due("a point has room", p.vault.append(0, 1000, 0), 250);
        });
        CHECK.sentence("5: no room in the journal (just room enough)", () -> {
            Probe p = new Probe();
            p.vault.format(16, 2);
            p.series("a=b");
            p.bulkOf(0, 0, 248);
            CHECK.due("2 units in 2", p.series("c=d"), 1);
            CHECK.due("units", p.vault.count(5), 252);
        });
        CHECK.sentence("5: (for one without a fault that is new)", () -> {
            Probe p = nearlyFull();
            p.vault.append(0, 1000, 0);
            CHECK.refused("a new one", Probe.UNSUPPORTED, () -> p.vault.series());
            CHECK.due("one that was there", p.series("a=b"), 0);
            CHECK.due("one with a fault", p.series("c=d,"), SeriesVault.NONE);
            CHECK.due("its fault", p.fault(), "7 at 4");
        });
        CHECK.sentence("5: behind an exception the tape and what fault() tells are as before (no room)", () -> {
            Probe p = nearlyFull();
            CHECK.refused("series()", Probe.UNSUPPORTED, () -> p.vault.series());
            CHECK.due("fault", p.fault(), "7 at 2");
            CHECK.due("the table", p.table(1, 1), " 7");
            p.vault.flush();
            CHECK.due("the tape", p.vault.series(), 1);
            CHECK.due("text", p.textOf(1), "c=d");
            CHECK.due("fault", p.fault(), "0 at 0");
        });
        CHECK.sentence("5: behind an exception the tape and what fault() tells are as before (the power is off)", () -> {
            Probe p = nearlyFull();
            p.vault.off();
            CHECK.refused("series()", Probe.STATE, () -> p.vault.series());
            CHECK.due("fault", p.fault(), "7 at 2");
            CHECK.due("the tape", p.tapeLength(), 3);
            CHECK.due("the table", p.table(1, 1), " 7");
        });
        CHECK.sentence("5: behind an exception the tape and what fault() tells are as before (the power goes off in it)", () -> {
            Probe p = new Probe();
            p.series("a=b");
            p.bulkOf(0, 0, 123);
            p.ask("7", 0, 1, 1);
            p.series("a=");
            Tape.put(p.vault, "c=d");
            p.vault.cut(0);
            CHECK.refused("series()", Probe.STATE, () -> p.vault.series());
            CHECK.due("fault", p.fault(), "7 at 2");
            CHECK.due("the tape", p.tapeLength(), 3);
            CHECK.due("the table", p.table(1, 1), " 7");
            CHECK.due("written", p.vault.written(), 0);
            CHECK.due("start()", p.vault.start(), 0);
            CHECK.due("the tape is the text of a series", p.vault.series(), 0);
            CHECK.due("text", p.textOf(0), "c=d");
        });
    }

    private static void faultAndLetter() {
        CHECK.sentence("6: 0 and 0 if it had none, or there was none", () -> {
            Probe p = new Probe();
            CHECK.due("there was none", p.fault(), "0 at 0");
            p.series("a=b(");
            CHECK.due("one", p.fault(), "7 at 3");
            p.series("a=b");
            CHECK.due("it had none", p.fault(), "0 at 0");
            p.ask("1 1", 0, 1, 1);
            CHECK.due("one", p.fault(), "2 at 2");
            p.ask("1", 0, 1, 1);
            CHECK.due("it had none", p.fault(), "0 at 0");
        });
        CHECK.sentence("6: of the latest series() or ask()", () -> {
            Probe p = new Probe();
            p.series("a=b");
            p.series("a=b(");
            p.ask("1 #", 0, 1, 1);
            CHECK.due("of ask()", p.fault(), "1 at 2");
            p.series("a=b,");
            CHECK.due("of series()", p.fault(), "7 at 4");
            p.bulk(0, 1, 1);
            p.vault.append(0, 2, 2);
            p.vault.delete(0, 2, 2);
            p.vault.flush();
            p.vault.off();
            p.vault.start();
            CHECK.due("others leave it", p.fault(), "7 at 4");
        });
        CHECK.sentence("6: there is no such what", () -> {
            Probe p = new Probe();
            for (int what : new int[] {-1, 2, Integer.MIN_VALUE, Integer.MAX_VALUE}) {
                CHECK.refused("fault(" + what + ")", Probe.INDEX, () -> p.vault.fault(what));
            }
            p.vault.off();
            CHECK.due("no power is needed", p.fault(), "0 at 0");
        });
        CHECK.sentence("7: NONE when it has no such one", () -> {
            Probe p = new Probe();
            p.series("b=1,a=2");
            CHECK.due("the first byte", p.vault.letter(0, 0), 'a');
            CHECK.due("the last one", p.vault.letter(0, 6), '1');
            for (int k : new int[] {7, -1, 300, Integer.MIN_VALUE, Integer.MAX_VALUE}) {
                CHECK.due("letter(0, " + k + ")", p.vault.letter(0, k), SeriesVault.NONE);
            }
        });
        CHECK.sentence("7: there is no such series", () -> {
            Probe p = new Probe();
            CHECK.refused("of none", Probe.INDEX, () -> p.vault.letter(0, 0));
            p.series("a=b");
            for (int s : new int[] {1, -1, 256, Integer.MIN_VALUE, Integer.MAX_VALUE}) {
                CHECK.refused("letter(" + s + ", 0)", Probe.INDEX, () -> p.vault.letter(s, 0));
            }
            p.vault.off();
            p.vault.start();
            CHECK.refused("it was not kept", Probe.INDEX, () -> p.vault.letter(0, 0));
        });
    }

    private static void last() {
        CHECK.sentence("Terms 1: the last time of a series: -1 at first", () -> {
            Probe p = new Probe();
            p.series("a=b");
            p.series("a=c");
            CHECK.due("of a new one", p.vault.last(0), -1);
            p.vault.append(0, 0, 0);
            CHECK.due("behind a point at 0", p.vault.last(0), 0);
            CHECK.due("of the other one", p.vault.last(1), -1);
        });
        CHECK.sentence("Terms 1: the latest point that ever came, whatever became of it", () -> {
            Probe p = new Probe();
            p.series("a=b");
            p.vault.append(0, 9, 0);
            p.vault.delete(0, 9, 9);
            CHECK.due("deleted in the head", p.vault.last(0), 9);
            CHECK.refused("append at it", Probe.ARGUMENT, () -> p.vault.append(0, 9, 0));
            p.vault.flush();
            CHECK.due("behind a flush", p.vault.last(0), 9);
            p.vault.append(0, 12, 0);
            p.vault.flush();
            p.vault.delete(0, 12, 12);
            CHECK.due("deleted in a parcel", p.vault.last(0), 12);
            p.vault.append(0, 14, 0);
            p.vault.retain(20);
            CHECK.due("below the horizon", p.vault.last(0), 14);
            p.vault.off();
            p.vault.start();
            CHECK.due("when the power came", p.vault.last(0), 14);
        });
        CHECK.sentence("22: there is no such series", () -> {
            Probe p = new Probe();
            CHECK.refused("of none", Probe.INDEX, () -> p.vault.last(0));
            p.series("a=b");
            for (int s : new int[] {1, -1, 256, Integer.MIN_VALUE, Integer.MAX_VALUE}) {
                CHECK.refused("last(" + s + ")", Probe.INDEX, () -> p.vault.last(s));
            }
        });
    }
}
