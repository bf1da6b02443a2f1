/** Promises 1 to 11 and 22: the tape, series, points, deletes and the journal. */
public final class SeriesAndPointsTest {
    private static final long MAX_TIME = 1099511627775L;
    private static final Check CHECK = new Check();

    private SeriesAndPointsTest() {
    }

    public static void main(String[] args) {
        newObject();
        feed();
        end();
        format();
        formatMakesAnotherDisk();
        series();
        seriesFaults();
        seriesLimits();
        fault();
        letter();
        append();
        appendRoom();
        bulk();
        bulkPower();
        delete();
        deleteLimits();
        sync();
        journalBlocks();
        last();
        CHECK.finish("SeriesAndPointsTest");
    }

    private static void newObject() {
        Probe p = new Probe();
        CHECK.due("1: counts", p.counts(), "0 0 0 0 54 0 0 0 0");
        CHECK.due("1: names()", p.vault.names(), SeriesVault.NONE);
        CHECK.due("1: fault", p.fault(), "0 at 0");
        CHECK.due("1: tape", p.tapeLength(), 0);
        CHECK.due("1: written()", p.vault.written(), 0);
        CHECK.due("1: NONE", SeriesVault.NONE, -1);
        CHECK.refused("1: start()", Probe.STATE, () -> p.vault.start());
    }

    private static void feed() {
        Probe p = new Probe();
        CHECK.due("2: feed", p.vault.feed(0x61626364, 0x65663d67, 0x68696a6b, 0x6c6d6e6f, 0x70717273), 20);
        CHECK.due("2: series()", p.vault.series(), 0);
        CHECK.due("2: bytes", p.textOf(0), "abcdef=ghijklmnopqrs");
        for (int i = 1; i <= 400; i++) {
            CHECK.due("2: feed " + i, p.vault.feed(-1, -2, -3, -4, -5), 20 * i);
        }
        p.vault.off();
        p.vault.end(5);
        CHECK.due("2: feed without power", p.vault.feed(0, 0, 0, 0, 0), 25);
    }

    private static void end() {
        Probe p = new Probe();
        p.vault.end(0);
        CHECK.refusedAct("3: end(1)", Probe.ARGUMENT, () -> p.vault.end(1));
        Tape.put(p.vault, "a=bc=d");
        CHECK.refusedAct("3: end(-1)", Probe.ARGUMENT, () -> p.vault.end(-1));
        CHECK.refusedAct("3: end(7)", Probe.ARGUMENT, () -> p.vault.end(7));
        p.vault.end(6);
        p.vault.end(3);
        CHECK.due("3: tape", p.tapeLength(), 3);
        p.vault.series();
        CHECK.due("3: what is kept", p.textOf(0), "a=b");
    }

    private static void format() {
        int[][] wrong = {{15, 2}, {257, 2}, {16, 1}, {16, 9}, {64, 57}, {256, 249}, {-1, -9}, {0, 0}, {Integer.MIN_VALUE, 5}};
        Probe p = new Probe();
        for (int[] w : wrong) {
            CHECK.refusedAct("4: format(" + w[0] + ", " + w[1] + ")", Probe.ARGUMENT, () -> p.vault.format(w[0], w[1]));
        }
        CHECK.due("4: counts", p.counts(), "0 0 0 0 54 0 0 0 0");
        int[][] right = {{16, 2}, {16, 8}, {256, 2}, {256, 248}, {64, 56}};
        for (int[] r : right) {
            p.vault.format(r[0], r[1]);
            CHECK.due("4: free blocks", p.vault.count(4), r[0] - 2 - r[1]);
        }
    }

    private static void formatMakesAnotherDisk() {
        Probe p = new Probe();
        p.series("a=b");
        p.vault.append(0, 5, 5);
        p.vault.flush();
        p.vault.append(0, 6, 6);
        p.vault.append(0, 7, 7);
        p.vault.flush();
        p.vault.delete(0, 6, 6);
        p.vault.retain(6);
        p.vault.append(0, 8, 8);
        CHECK.due("4: before it", p.counts(), "1 1 1 1 52 2 2 1 2");
        p.ask("1", 0, 1, 1);
        p.ask("?", 0, 1, 1);
        p.ask("1", 0, 1, 1);
        p.series("a=");
        Tape.put(p.vault, "xyz");
        p.vault.cut(0);
        p.vault.off();
        p.vault.format(32, 4);
        CHECK.due("4: counts", p.counts(), "0 0 0 0 26 0 0 0 0");
        CHECK.due("4: names()", p.vault.names(), SeriesVault.NONE);
        CHECK.due("4: fault", p.fault(), "7 at 2");
        CHECK.due("4: tape", p.tapeLength(), 3);
        CHECK.due("4: written()", p.vault.written(), 0);
        CHECK.refused("4: cell", Probe.INDEX, () -> p.vault.cell(0, 0));
        CHECK.refused("4: last", Probe.INDEX, () -> p.vault.last(0));
        CHECK.due("4: series", p.series("c=d"), 0);
        CHECK.due("4: last(0)", p.vault.last(0), -1);
        CHECK.due("4: the horizon is 0", p.vault.append(0, 0, 1), 1);
        CHECK.due("4: no cut is set", p.vault.sync(), true);
        p.vault.format(16, 2);
        p.vault.off();
        CHECK.due("4: start()", p.vault.start(), 0);
        CHECK.due("4: counts", p.counts(), "0 0 0 0 12 0 0 0 0");
    }

    private static void series() {
        Probe p = new Probe();
        CHECK.due("5: series", p.series("job=api,host=h1"), 0);
        CHECK.due("5: tape", p.tapeLength(), 0);
        CHECK.due("5: by rising names", p.textOf(0), "host=h1,job=api");
        CHECK.due("5: in another order", p.series("host=h1,job=api"), 0);
        CHECK.due("5: another value", p.series("host=h1,job=ap"), 1);
        CHECK.due("5: a beginning is less", p.series("ab=1,a=2,B=3,a!=4,a0=5,~=6"), 2);
        CHECK.due("5: order", p.textOf(2), "B=3,a=2,a!=4,a0=5,ab=1,~=6");
        String word = "!#$%&'*+-./0123456789:;<";
        CHECK.due("5: words of 24", p.series(word + "=" + word), 3);
        CHECK.due("5: text", p.textOf(3), word + "=" + word);
        CHECK.due("5: units", p.vault.count(5), 2 + 2 + 2 + 3);
        CHECK.due("5: records", p.vault.count(6), 4);
        int units = p.vault.count(5);
        p.series("a234567890123456=b23456789012345");
        CHECK.due("5: 32 bytes", p.vault.count(5), units + 2);
        p.series("a234567890123456=b234567890123456");
        CHECK.due("5: 33 bytes", p.vault.count(5), units + 2 + 3);
        p.series("abc=1,abd=2,ab=3");
        CHECK.due("5: names that begin alike", p.textOf(6), "ab=3,abc=1,abd=2");
        p.vault.off();
        Tape.put(p.vault, "q=q");
        CHECK.refused("5: series() without power", Probe.STATE, () -> p.vault.series());
        CHECK.due("5: tape stays", p.tapeLength(), 3);
    }

    private static void seriesFaults() {
        String w24 = "abcdefghijklmnopqrstuvwx";
        String[][] faults = {
            {"", "7 at 0"}, {"=", "7 at 0"}, {"a", "7 at 1"}, {"a=", "7 at 2"}, {"a=b,", "7 at 4"}, {"a=b,c", "7 at 5"},
            {"a=b,,c=d", "7 at 4"}, {",a=b", "7 at 0"}, {"a==b", "7 at 2"}, {"a=b=c", "7 at 3"}, {" a=b", "7 at 0"},
            {"a =b", "7 at 1"}, {"a=b c", "7 at 3"}, {"a(=b", "7 at 1"}, {"a)=b", "7 at 1"}, {"a{=b", "7 at 1"},
            {"a}=b", "7 at 1"}, {"a=\"b\"", "7 at 2"}, {"a,b=c", "7 at 1"}, {"a=\u007f", "7 at 2"}, {"a=\u00e9", "7 at 2"},
            {"a=\u0000", "7 at 2"}, {w24 + "y=b", "7 at 24"}, {"a=" + w24 + "y", "7 at 26"}, {w24 + "y", "7 at 24"},
            {"a=b,a=c", "8 at 4"}, {"a=b,a=", "8 at 4"}, {"a=b,a", "7 at 5"}, {"a=b,a,", "7 at 5"}, {"a=b,c=d,a=(", "8 at 8"},
            {"a=1,b=2,c=3,d=4,e=5,f=6,g=7", "8 at 24"}, {"a=1,b=2,c=3,d=4,e=5,f=6,g", "7 at 25"},
            {"a=1,b=2,c=3,d=4,e=5,f=6,a=7", "8 at 24"}, {"a=1,b=2,c=3,d=4,e=5,f=6,", "7 at 24"},
            {"xab=1,xac=2,xab=3", "8 at 12"}, {"q=1,abc=2,ab=3,abd=4,abc=5", "8 at 21"}, {"ab=1,b=2,ab=3,b=4", "8 at 9"},
            {"a=1,b=2,c=3,d=4,e=5,f=6,g=", "8 at 24"}, {"a=1,a=(,c", "8 at 4"}, {"a=(,a=1", "7 at 2"}, {"a=b\n", "7 at 3"},
        };
        for (String[] f : faults) {
            Probe p = new Probe();
            p.series("k=v");
            p.ask("1", 0, 1, 1);
            CHECK.due("5: series() of " + f[0], p.series(f[0]), SeriesVault.NONE);
            CHECK.due("5: fault of " + f[0], p.fault(), f[1]);
            CHECK.due("5: tape is empty", p.tapeLength(), 0);
            CHECK.due("5: no series came", p.vault.count(0), 1);
            CHECK.due("5: no record came", p.vault.count(6), 1);
            CHECK.due("5: the table stays", p.vault.names(), 0);
            CHECK.due("5: six labels", p.series("a=1,b=2,c=3,d=4,e=5,f=6"), 1);
            CHECK.due("5: no fault", p.fault(), "0 at 0");
        }
    }

    private static void seriesLimits() {
        Probe q = new Probe();
        q.vault.format(16, 2);
        q.series("a=b");
        q.bulkOf(0, 0, 249);
        q.series("a=");
        CHECK.due("5: units", q.vault.count(5), 251);
        Tape.put(q.vault, "c=d");
        CHECK.refused("5: no room", Probe.UNSUPPORTED, () -> q.vault.series());
        CHECK.due("5: fault stays", q.fault(), "7 at 2");
        CHECK.due("5: tape stays", q.tapeLength(), 3);
        CHECK.due("5: a point has room", q.vault.append(0, 1000, 0), 250);
    }

    private static void fault() {
        Probe p = new Probe();
        CHECK.refused("6: fault(-1)", Probe.INDEX, () -> p.vault.fault(-1));
        CHECK.refused("6: fault(2)", Probe.INDEX, () -> p.vault.fault(2));
        p.series("ab=c,");
        CHECK.due("6: fault(0)", p.vault.fault(0), 7);
        CHECK.due("6: fault(1)", p.vault.fault(1), 5);
        p.ask("1 2", 0, 1, 1);
        CHECK.due("6: of ask()", p.fault(), "2 at 2");
        p.vault.off();
        CHECK.due("6: without power", p.fault(), "2 at 2");
        p.vault.start();
        CHECK.due("6: behind start()", p.fault(), "2 at 2");
        p.ask("1", 0, 1, 1);
        CHECK.due("6: none", p.fault(), "0 at 0");
    }

    private static void letter() {
        Probe p = new Probe();
        p.series("b=1,a=~");
        CHECK.due("7: letter(0, 0)", p.vault.letter(0, 0), 'a');
        CHECK.due("7: letter(0, 2)", p.vault.letter(0, 2), '~');
        CHECK.due("7: letter(0, 3)", p.vault.letter(0, 3), ',');
        CHECK.due("7: letter(0, 6)", p.vault.letter(0, 6), '1');
        CHECK.due("7: letter(0, 7)", p.vault.letter(0, 7), SeriesVault.NONE);
        CHECK.due("7: letter(0, -1)", p.vault.letter(0, -1), SeriesVault.NONE);
        CHECK.refused("7: letter(1, 0)", Probe.INDEX, () -> p.vault.letter(1, 0));
        CHECK.refused("7: letter(-1, 0)", Probe.INDEX, () -> p.vault.letter(-1, 0));
        p.vault.off();
        CHECK.refused("7: letter(1, 0) without power", Probe.STATE, () -> p.vault.letter(1, 0));
    }

    private static void append() {
        Probe p = new Probe();
        CHECK.refused("8: no series", Probe.INDEX, () -> p.vault.append(0, -1, 0));
        p.series("a=b");
        p.series("a=c");
        CHECK.refused("8: time -1", Probe.ARGUMENT, () -> p.vault.append(0, -1, 0));
        CHECK.refused("8: time too great", Probe.ARGUMENT, () -> p.vault.append(0, MAX_TIME + 1, 0));
        CHECK.refused("8: time far too great", Probe.ARGUMENT, () -> p.vault.append(0, Long.MAX_VALUE, 0));
        CHECK.due("8: time 0", p.vault.append(0, 0, Long.MIN_VALUE), 1);
        CHECK.refused("8: the same time", Probe.ARGUMENT, () -> p.vault.append(0, 0, 0));
        CHECK.due("8: another series", p.vault.append(1, 0, 0), 2);
        CHECK.due("8: the latest time", p.vault.append(1, MAX_TIME, 0), 3);
        CHECK.refused("8: nothing behind it", Probe.ARGUMENT, () -> p.vault.append(1, MAX_TIME, 0));
        CHECK.refused("8: series -1", Probe.INDEX, () -> p.vault.append(-1, 5, 0));
        CHECK.refused("8: series 2", Probe.INDEX, () -> p.vault.append(2, 5, 0));
        p.vault.retain(10);
        CHECK.refused("8: below the horizon", Probe.ARGUMENT, () -> p.vault.append(0, 9, 0));
        CHECK.due("8: at the horizon", p.vault.append(0, 10, 0), 2);
        CHECK.due("8: points seen", p.vault.count(8), 2);
        p.vault.delete(0, 10, 10);
        CHECK.refused("8: a deleted time is not free", Probe.ARGUMENT, () -> p.vault.append(0, 10, 0));
        p.vault.off();
        CHECK.refused("8: without power", Probe.STATE, () -> p.vault.append(-1, -1, 0));
    }

    private static void appendRoom() {
        Probe p = new Probe();
        p.vault.format(16, 2);
        p.series("a=b");
        p.bulkOf(0, 0, 120);
        for (int i = 120; i < 250; i++) {
            CHECK.due("8: point " + i, p.vault.append(0, i, i), i + 1);
            CHECK.due("8: written", p.vault.written(), i < 124 ? 0 : 1);
        }
        CHECK.refused("8: no room", Probe.UNSUPPORTED, () -> p.vault.append(0, 250, 0));
        CHECK.refused("8: a wrong time is named first", Probe.ARGUMENT, () -> p.vault.append(0, 249, 0));
        CHECK.due("8: nothing is written for it", p.vault.written(), 1);
        CHECK.due("8: counts", p.counts(), "1 250 0 0 12 252 251 125 250");
        CHECK.due("8: flush()", p.vault.flush(), 3);
        CHECK.due("8: room again", p.vault.append(0, 250, 0), 1);
    }

    private static void bulk() {
        Probe p = new Probe();
        CHECK.refused("9: no series", Probe.INDEX, () -> p.vault.bulk(0));
        p.series("a=b");
        CHECK.due("9: bulk", p.bulk(0, 5, -1, 6, Long.MIN_VALUE, MAX_TIME - 1, Long.MAX_VALUE), 3);
        CHECK.due("9: tape", p.tapeLength(), 0);
        CHECK.due("9: times and values", p.asked("first({})", 5, 1, 2), " -1 " + Long.MIN_VALUE);
        CHECK.due("9: a great time", p.asked("sum({})", MAX_TIME - 1, 1, 1), " " + Long.MAX_VALUE);
        CHECK.due("9: empty", p.vault.bulk(0), 0);
        p.series("a=c");
        Tape.put(p.vault, java.util.Arrays.copyOf(Tape.points(1, 1, 2, 2, 3, 3), 47));
        CHECK.due("9: what is left over", p.vault.bulk(1), 2);
        CHECK.due("9: up to a time not above the last", p.bulk(1, 3, 0, 4, 0, 4, 0, 5, 0), 2);
        CHECK.due("9: last", p.vault.last(1), 4);
        CHECK.due("9: a time below 0", p.bulk(1, -5, 0, 5, 0), 0);
        CHECK.due("9: a time too great", p.bulk(1, 5, 0, MAX_TIME + 1, 0), 1);
        p.vault.retain(20);
        CHECK.due("9: below the horizon", p.bulk(1, 19, 0, 20, 0), 0);
        Tape.put(p.vault, Tape.points(30, 0));
        CHECK.refused("9: series 2", Probe.INDEX, () -> p.vault.bulk(2));
        CHECK.refused("9: series -1", Probe.INDEX, () -> p.vault.bulk(-1));
        CHECK.due("9: tape stays", p.tapeLength(), 16);
        p.vault.off();
        CHECK.refused("9: without power", Probe.STATE, () -> p.vault.bulk(7));
        CHECK.due("9: tape stays", p.tapeLength(), 16);
        Probe q = new Probe();
        q.vault.format(16, 2);
        q.series("a=b");
        CHECK.due("9: as the journal has room", q.bulkOf(0, 0, 300), 250);
        CHECK.due("9: tape", q.tapeLength(), 0);
        CHECK.due("9: written", q.vault.written(), 1);
    }

    private static void bulkPower() {
        Probe p = new Probe();
        p.series("a=b");
        p.vault.cut(1);
        long[] numbers = new long[600];
        for (int i = 0; i < 300; i++) {
            numbers[2 * i] = i;
        }
        Tape.put(p.vault, Tape.points(numbers));
        CHECK.refused("9: the power goes", Probe.STATE, () -> p.vault.bulk(0));
        CHECK.due("9: tape is empty", p.tapeLength(), 0);
        CHECK.due("9: written", p.vault.written(), 1);
        CHECK.due("9: done again", p.vault.start(), 125);
        CHECK.due("9: last", p.vault.last(0), 123);
    }

    private static void delete() {
        Probe p = new Probe();
        CHECK.refused("10: no series", Probe.INDEX, () -> p.vault.delete(0, 1, 0));
        p.series("a=b");
        p.series("a=c");
        p.bulkOf(0, 0, 10);
        p.bulkOf(1, 0, 10);
        CHECK.refused("10: from above to", Probe.ARGUMENT, () -> p.vault.delete(0, 1, 0));
        CHECK.due("10: none there", p.vault.delete(0, 10, 20), 0);
        CHECK.due("10: no record for it", p.vault.count(6), 22);
        CHECK.due("10: of the head", p.vault.delete(0, 3, 4), 2);
        CHECK.due("10: counts", p.counts(), "2 18 0 0 54 25 23 0 18");
        p.vault.flush();
        p.bulkOf(0, 10, 5);
        CHECK.due("10: of head and parcel", p.vault.delete(0, 8, 11), 4);
        CHECK.due("10: counts", p.counts(), "2 3 1 1 52 6 6 0 19");
        CHECK.due("10: parcel", p.vault.parcel(0, 1), 16);
        CHECK.due("10: of the head alone is no scar", p.vault.delete(0, 12, 12), 1);
        CHECK.due("10: scars", p.vault.count(3), 1);
        CHECK.due("10: those that were not deleted", p.vault.delete(0, 7, 9), 1);
        CHECK.due("10: scars", p.vault.count(3), 2);
        CHECK.due("10: any numbers", p.vault.delete(0, Long.MIN_VALUE, Long.MAX_VALUE), 7);
        CHECK.due("10: last", p.vault.last(0), 14);
        CHECK.due("10: none left", p.vault.delete(0, Long.MIN_VALUE, Long.MAX_VALUE), 0);
        CHECK.due("10: one that comes later is seen", p.vault.append(0, 15, 0), 1);
        CHECK.due("10: seen", p.vault.count(8), 11);
        p.vault.flush();
        CHECK.due("10: also packed", p.vault.parcel(1, 1), 1);
        p.vault.retain(5);
        CHECK.due("10: below the horizon are none", p.vault.delete(1, 0, 4), 0);
        CHECK.due("10: the rest", p.vault.delete(1, 4, 5), 1);
        p.vault.off();
        CHECK.refused("10: without power", Probe.STATE, () -> p.vault.delete(9, 1, 0));
    }

    private static void deleteLimits() {
        Probe p = new Probe();
        p.series("a=b");
        p.bulkOf(0, 0, 70);
        p.vault.flush();
        for (int i = 0; i < 64; i++) {
            CHECK.due("10: delete " + i, p.vault.delete(0, i, i), 1);
        }
        p.vault.append(0, 100, 0);
        int records = p.vault.count(6);
        CHECK.refused("10: the 65th scar", Probe.UNSUPPORTED, () -> p.vault.delete(0, 64, 64));
        CHECK.refused("10: with points of the head, too", Probe.UNSUPPORTED, () -> p.vault.delete(0, 64, 100));
        CHECK.due("10: no record", p.vault.count(6), records);
        CHECK.due("10: seen", p.vault.count(8), 7);
        CHECK.due("10: none to delete", p.vault.delete(0, 0, 63), 0);
        CHECK.due("10: of the head", p.vault.delete(0, 100, 100), 1);
        p.bulkOf(0, 200, 57);
        CHECK.due("10: units", p.vault.count(5), 123);
        p.vault.append(0, 300, 0);
        p.vault.append(0, 301, 0);
        p.vault.append(0, 302, 0);
        p.vault.cut(0);
        CHECK.refused("10: asked before a block is written", Probe.UNSUPPORTED, () -> p.vault.delete(0, 64, 64));
        CHECK.refused("10: the power goes", Probe.STATE, () -> p.vault.delete(0, 300, 300));
        Probe q = new Probe();
        q.vault.format(16, 2);
        q.series("a=b");
        q.bulkOf(0, 0, 250);
        CHECK.refused("10: no room", Probe.UNSUPPORTED, () -> q.vault.delete(0, 0, 5));
        CHECK.due("10: none, and no room", q.vault.delete(0, 500, 600), 0);
        CHECK.due("10: nothing is gone", q.vault.count(8), 250);
    }

    private static void sync() {
        Probe p = new Probe();
        CHECK.due("11: nothing to write", p.vault.sync(), false);
        p.series("a=b");
        CHECK.due("11: sync()", p.vault.sync(), true);
        CHECK.due("11: once", p.vault.sync(), false);
        CHECK.due("11: written", p.vault.written(), 1);
        CHECK.due("11: kept", p.vault.count(7), 1);
        p.vault.append(0, 1, 1);
        CHECK.due("11: kept", p.vault.count(7), 1);
        CHECK.due("11: sync()", p.vault.sync(), true);
        CHECK.due("11: kept", p.vault.count(7), 2);
        p.series("a=b");
        p.vault.delete(0, 5, 9);
        CHECK.due("11: no record came", p.vault.sync(), false);
        p.vault.flush();
        CHECK.due("11: behind a flush", p.vault.sync(), false);
        p.vault.append(0, 2, 2);
        p.vault.cut(0);
        CHECK.refused("11: the power goes", Probe.STATE, () -> p.vault.sync());
        CHECK.refused("11: without power", Probe.STATE, () -> p.vault.sync());
        p.vault.start();
        CHECK.due("11: nothing behind start()", p.vault.sync(), false);
        CHECK.due("11: what was not kept is gone", p.vault.last(0), 1);
    }

    private static void journalBlocks() {
        Probe p = new Probe();
        p.series("a=b");
        p.bulkOf(0, 0, 124);
        CHECK.due("11: a full block is not yet written", p.vault.written(), 0);
        p.vault.sync();
        CHECK.due("11: written", p.vault.written(), 1);
        p.vault.append(0, 500, 0);
        CHECK.due("11: it is on the disk as it is", p.vault.written(), 1);
        CHECK.due("11: counts", p.counts(), "1 125 0 0 54 127 126 125 125");
        p.bulkOf(0, 501, 120);
        CHECK.due("11: units", p.vault.count(5), 126 + 121);
        String word = "abcdefghijklmnopqrstuvwx";
        p.series("a=" + word + ",b=" + word + ",c=" + word + ",d=" + word + ",e=" + word);
        CHECK.due("11: units of 134 bytes", p.vault.count(5), 126 + 121 + 6);
        CHECK.due("11: it had no room, so the block is written", p.vault.written(), 2);
        CHECK.due("11: kept", p.vault.count(7), 125 + 121);
        p.vault.off();
        CHECK.due("11: start()", p.vault.start(), 125 + 121);
        CHECK.due("11: series", p.vault.count(0), 1);
        CHECK.due("11: what blocks have left over is none", p.vault.count(5), 126 + 121);
        p.bulkOf(0, 700, 5);
        CHECK.due("11: goes on in its block", p.vault.written(), 2);
        p.vault.append(0, 800, 0);
        CHECK.due("11: and in the next one", p.vault.written(), 3);
        CHECK.due("11: kept", p.vault.count(7), 125 + 126);
    }

    private static void last() {
        Probe p = new Probe();
        CHECK.refused("22: no series", Probe.INDEX, () -> p.vault.last(0));
        p.series("a=b");
        CHECK.due("22: at first", p.vault.last(0), -1);
        p.vault.append(0, 7, 0);
        CHECK.due("22: last", p.vault.last(0), 7);
        p.vault.delete(0, 7, 7);
        CHECK.due("22: whatever became of it", p.vault.last(0), 7);
        p.vault.flush();
        p.vault.retain(100);
        CHECK.due("22: below the horizon", p.vault.last(0), 7);
        p.vault.off();
        CHECK.refused("22: without power", Probe.STATE, () -> p.vault.last(5));
        p.vault.start();
        CHECK.due("22: of the catalog", p.vault.last(0), 7);
        CHECK.refused("22: last(1)", Probe.INDEX, () -> p.vault.last(1));
        CHECK.refused("22: last(-1)", Probe.INDEX, () -> p.vault.last(-1));
    }
}
