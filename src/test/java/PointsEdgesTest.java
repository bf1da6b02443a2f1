import java.util.Arrays;

/** A test for each sentence on an edge of promises 8 to 11 and of the journal, the head and scars in part 2. */
public final class PointsEdgesTest {
    private static final long MAX_TIME = 1099511627775L;
    private static final String W24 = "abcdefghijklmnopqrstuvwx";
    private static final Check CHECK = new Check();

    private PointsEdgesTest() {
    }

    public static void main(String[] args) {
        append();
        appendRefused();
        bulk();
        bulkStops();
        bulkAndPower();
        delete();
        deleteRefused();
        scars();
        scarsEnd();
        sync();
        journal();
        journalRefuses();
        journalKept();
        journalLeftOver();
        head();
        CHECK.finish("PointsEdgesTest");
    }

    /** A vault with series 0 and 1. */
    private static Probe two() {
        Probe p = new Probe();
        p.series("a=b");
        p.series("a=c");
        return p;
    }

    /** With so many points of series 0 in one parcel, at 0, 1, .. */
    private static Probe packed(int points) {
        Probe p = two();
        p.bulkOf(0, 0, points);
        p.vault.flush();
        return p;
    }

    /** A journal of two blocks that has 252 - free units filled. */
    private static Probe filledBut(int free) {
        Probe p = new Probe();
        p.vault.format(16, 2);
        p.series("a=b");
        p.bulkOf(0, 0, 250 - free);
        return p;
    }

    private static void append() {
        CHECK.sentence("8: a new point: how many points are in the head", () -> {
            Probe p = two();
            CHECK.due("the first", p.vault.append(0, 5, 1), 1);
            CHECK.due("of another series", p.vault.append(1, 2, 1), 2);
            p.vault.delete(0, 5, 5);
            CHECK.due("behind a delete", p.vault.append(1, 3, 1), 2);
            p.vault.flush();
            CHECK.due("behind a flush", p.vault.append(0, 6, 1), 1);
            p.vault.retain(7);
            CHECK.due("behind a horizon", p.vault.append(0, 7, 1), 1);
        });
        CHECK.sentence("8: it is no time", () -> {
            Probe p = two();
            for (long time : new long[] {-1, MAX_TIME + 1, Long.MIN_VALUE, Long.MAX_VALUE}) {
                CHECK.refused("append at " + time, Probe.ARGUMENT, () -> p.vault.append(0, time, 0));
            }
            CHECK.due("the least", p.vault.append(0, 0, 0), 1);
            CHECK.due("the greatest", p.vault.append(0, MAX_TIME, 0), 2);
        });
        CHECK.sentence("8: not above the last one of the series", () -> {
            Probe p = two();
            p.vault.append(0, 9, 0);
            CHECK.refused("at it", Probe.ARGUMENT, () -> p.vault.append(0, 9, 0));
            CHECK.refused("below it", Probe.ARGUMENT, () -> p.vault.append(0, 0, 0));
            CHECK.due("of another series", p.vault.append(1, 0, 0), 2);
            p.vault.flush();
            CHECK.refused("at one that is packed", Probe.ARGUMENT, () -> p.vault.append(0, 9, 0));
            p.vault.off();
            p.vault.start();
            CHECK.refused("at one of the catalog", Probe.ARGUMENT, () -> p.vault.append(0, 9, 0));
            CHECK.due("above it", p.vault.append(0, 10, 0), 1);
        });
        CHECK.sentence("8: or below the horizon", () -> {
            Probe p = two();
            p.vault.retain(100);
            CHECK.refused("below it", Probe.ARGUMENT, () -> p.vault.append(0, 99, 0));
            CHECK.due("last", p.vault.last(0), -1);
            CHECK.due("at it", p.vault.append(0, 100, 0), 1);
            p.vault.sync();
            p.vault.off();
            p.vault.start();
            CHECK.refused("below it, when the power came", Probe.ARGUMENT, () -> p.vault.append(1, 99, 0));
        });
        CHECK.sentence("8: there is no such series", () -> {
            Probe p = new Probe();
            CHECK.refused("of none", Probe.INDEX, () -> p.vault.append(0, 1, 1));
            p.series("a=b");
            for (int s : new int[] {1, -1, 256, Integer.MIN_VALUE, Integer.MAX_VALUE}) {
                CHECK.refused("series " + s, Probe.INDEX, () -> p.vault.append(s, 1, 1));
            }
            CHECK.due("records", p.vault.count(6), 1);
        });
    }

    private static void appendRefused() {
        CHECK.sentence("8: no room in the journal", () -> {
            Probe p = filledBut(1);
            CHECK.due("the last one that has room", p.vault.append(0, 1000, 0), 250);
            p.vault.cut(0);
            CHECK.refused("one more", Probe.UNSUPPORTED, () -> p.vault.append(0, 1001, 0));
            CHECK.due("counts", p.counts(), "1 250 0 0 12 252 251 125 250");
            CHECK.due("last", p.vault.last(0), 1000);
            CHECK.due("written", p.vault.written(), 1);
            p.vault.cut(SeriesVault.NONE);
            p.vault.flush();
            CHECK.due("behind a flush", p.vault.append(0, 1001, 0), 1);
        });
        CHECK.sentence("Terms 2: when there is no next one, the record is refused (also when the last block is on the disk)", () -> {
            Probe p = filledBut(0);
            CHECK.due("sync()", p.vault.sync(), true);
            CHECK.refused("append", Probe.UNSUPPORTED, () -> p.vault.append(0, 1001, 0));
            p.vault.off();
            CHECK.due("start()", p.vault.start(), 251);
            CHECK.refused("when the power came", Probe.UNSUPPORTED, () -> p.vault.append(0, 1001, 0));
        });
        CHECK.sentence("8: the power goes off in it", () -> {
            Probe p = two();
            p.bulkOf(0, 0, 122);
            p.vault.cut(0);
            CHECK.refused("append", Probe.STATE, () -> p.vault.append(0, 500, 0));
            CHECK.refused("it is off", Probe.STATE, () -> p.vault.count(0));
            CHECK.due("written", p.vault.written(), 0);
            CHECK.due("start()", p.vault.start(), 0);
            CHECK.due("as if it had never come", p.counts(), "0 0 0 0 54 0 0 0 0");
        });
    }

    private static void bulk() {
        CHECK.sentence("9: points, each of 16 bytes, time and value, the highest byte first", () -> {
            Probe p = two();
            Tape.put(p.vault, new byte[] {0, 0, 0, 1, 2, 3, 4, 5, (byte) 0x81, 9, 8, 7, 6, 5, 4, 3});
            CHECK.due("bulk", p.vault.bulk(0), 1);
            CHECK.due("time", p.vault.last(0), 0x0102030405L);
            CHECK.due("value", p.asked("sum({})", 0x0102030405L, 1, 1), " " + 0x8109080706050403L);
        });
        CHECK.sentence("9: the tape (which is empty then)", () -> {
            Probe p = two();
            p.bulk(0, 1, 1, 2, 2);
            CHECK.due("all came", p.tapeLength(), 0);
            p.bulk(0, 2, 2, 3, 3);
            CHECK.due("none came", p.tapeLength(), 0);
            Tape.put(p.vault, "abc");
            CHECK.due("no point", p.vault.bulk(0), 0);
            CHECK.due("what was left over", p.tapeLength(), 0);
        });
        CHECK.sentence("9: (what is left over does not count)", () -> {
            for (int bytes : new int[] {0, 1, 15, 16, 17, 31, 32, 47}) {
                Probe p = two();
                Tape.put(p.vault, Arrays.copyOf(Tape.points(1, 1, 2, 2, 3, 3), bytes));
                CHECK.due("bulk of " + bytes, p.vault.bulk(0), bytes / 16);
                CHECK.due("records", p.vault.count(6), 2 + bytes / 16);
                CHECK.due("the tape is empty", p.tapeLength(), 0);
            }
        });
        CHECK.sentence("9: (what is left over does not count) nor what stood behind the end of the tape", () -> {
            Probe p = two();
            Tape.put(p.vault, Tape.points(1, 1, 2, 2, 3, 3));
            p.vault.end(31);
            CHECK.due("bulk", p.vault.bulk(0), 1);
            CHECK.due("last", p.vault.last(0), 1);
        });
        CHECK.sentence("9: an empty tape has no points", () -> {
            Probe p = two();
            CHECK.due("bulk", p.vault.bulk(0), 0);
            CHECK.due("counts", p.counts(), "2 0 0 0 54 4 2 0 0");
        });
        CHECK.sentence("9: there is no such series", () -> {
            Probe p = two();
            Tape.put(p.vault, Tape.points(1, 1));
            for (int s : new int[] {2, -1, 256, Integer.MIN_VALUE, Integer.MAX_VALUE}) {
                CHECK.refused("bulk(" + s + ")", Probe.INDEX, () -> p.vault.bulk(s));
                CHECK.due("the tape stays", p.tapeLength(), 16);
            }
            CHECK.due("its bytes, too", p.vault.bulk(1), 1);
        });
    }

    private static void bulkStops() {
        CHECK.sentence("9: up to the first that append() would refuse (no time)", () -> {
            Probe p = two();
            CHECK.due("too late", p.bulk(0, 1, 1, MAX_TIME + 1, 2, 3, 3), 1);
            CHECK.due("last", p.vault.last(0), 1);
            CHECK.due("below 0", p.bulk(0, 4, 1, -1, 2, 5, 3), 1);
            CHECK.due("the latest", p.bulk(1, 0, 1, MAX_TIME, 2), 2);
        });
        CHECK.sentence("9: up to the first that append() would refuse (not above the last one)", () -> {
            Probe p = two();
            CHECK.due("the same", p.bulk(0, 1, 1, 2, 2, 2, 3, 9, 9), 2);
            CHECK.due("one below", p.bulk(0, 5, 5, 4, 4, 9, 9), 1);
            CHECK.due("none", p.bulk(0, 5, 5, 6, 6), 0);
            CHECK.due("points", p.vault.count(1), 3);
        });
        CHECK.sentence("9: up to the first that append() would refuse (below the horizon)", () -> {
            Probe p = two();
            p.vault.retain(10);
            CHECK.due("below it", p.bulk(0, 9, 9, 10, 10), 0);
            CHECK.due("at it", p.bulk(0, 10, 10, 11, 11), 2);
        });
        CHECK.sentence("9: also for want of room in the journal", () -> {
            Probe p = filledBut(3);
            CHECK.due("three of four", p.bulk(0, 1000, 0, 1001, 0, 1002, 0, 1003, 0), 3);
            CHECK.due("the tape is empty", p.tapeLength(), 0);
            CHECK.due("none of one", p.bulk(0, 1003, 0), 0);
            CHECK.due("last", p.vault.last(0), 1002);
            CHECK.due("written", p.vault.written(), 1);
            Probe q = filledBut(3);
            CHECK.due("three of three", q.bulk(0, 1000, 0, 1001, 0, 1002, 0), 3);
        });
    }

    private static void bulkAndPower() {
        CHECK.sentence("9: also when the power goes off in it: the tape is empty then, too", () -> {
            Probe p = two();
            p.ask("7", 0, 1, 1);
            p.series("q");
            p.vault.cut(1);
            long[] numbers = new long[2 * 260];
            for (int i = 0; i < 260; i++) {
                numbers[2 * i] = i;
            }
            Tape.put(p.vault, Tape.points(numbers));
            CHECK.refused("bulk", Probe.STATE, () -> p.vault.bulk(0));
            CHECK.due("the tape", p.tapeLength(), 0);
            CHECK.due("what was written before stays", p.vault.written(), 1);
            CHECK.due("fault", p.fault(), "7 at 1");
            CHECK.due("the table", p.table(1, 1), " 7");
            CHECK.due("start()", p.vault.start(), 124);
            CHECK.due("those of the block that was written", p.counts(), "2 122 0 0 54 126 124 124 122");
            CHECK.due("last", p.vault.last(0), 121);
        });
        CHECK.sentence("9: IllegalStateException: the power is off (the tape stays)", () -> {
            Probe p = two();
            p.vault.sync();
            Tape.put(p.vault, Tape.points(1, 1));
            p.vault.off();
            CHECK.refused("bulk", Probe.STATE, () -> p.vault.bulk(0));
            CHECK.due("the tape", p.tapeLength(), 16);
            p.vault.start();
            CHECK.due("its bytes", p.vault.bulk(0), 1);
        });
        CHECK.sentence("9: they come one after another: with just as many blocks as the cut lets be", () -> {
            Probe p = two();
            p.vault.cut(1);
            CHECK.due("248 units behind 4", p.bulkOf(0, 0, 248), 248);
            CHECK.due("written", p.vault.written(), 1);
            CHECK.due("units", p.vault.count(5), 252);
        });
    }

    private static void delete() {
        CHECK.sentence("10: deletes the points that are seen of a series from one time to another one: how many", () -> {
            Probe p = packed(10);
            p.bulkOf(0, 10, 10);
            p.bulkOf(1, 0, 20);
            CHECK.due("both ends count", p.vault.delete(0, 8, 11), 4);
            CHECK.due("what is left", p.asked("count by (a)({})", 7, 1, 6), "b| 1 . . . . 1; c| 1 1 1 1 1 1");
            CHECK.due("one alone", p.vault.delete(0, 3, 3), 1);
            CHECK.due("those that are seen", p.vault.delete(0, 2, 4), 2);
            p.vault.retain(7);
            CHECK.due("not those below the horizon", p.vault.delete(0, 0, 7), 1);
        });
        CHECK.sentence("10: (any numbers)", () -> {
            Probe p = packed(3);
            p.vault.append(0, MAX_TIME, 0);
            CHECK.due("above all times", p.vault.delete(0, MAX_TIME + 1, Long.MAX_VALUE), 0);
            CHECK.due("below all times", p.vault.delete(0, Long.MIN_VALUE, -1), 0);
            CHECK.due("from the least to 0", p.vault.delete(0, Long.MIN_VALUE, 0), 1);
            CHECK.due("the latest time", p.vault.delete(0, MAX_TIME, Long.MAX_VALUE), 1);
            CHECK.due("from the least to the greatest", p.vault.delete(0, Long.MIN_VALUE, Long.MAX_VALUE), 2);
        });
        CHECK.sentence("10: with none nothing is done", () -> {
            Probe p = packed(3);
            p.vault.append(0, 9, 0);
            p.vault.cut(0);
            String before = p.counts();
            CHECK.due("between", p.vault.delete(0, 4, 8), 0);
            CHECK.due("of another series", p.vault.delete(1, 0, 9), 0);
            CHECK.due("counts", p.counts(), before);
            p.vault.cut(SeriesVault.NONE);
            p.vault.delete(0, 0, 9);
            before = p.counts();
            CHECK.due("what was deleted already", p.vault.delete(0, 0, 9), 0);
            CHECK.due("counts", p.counts(), before);
        });
        CHECK.sentence("10: with none nothing is done (though there is no room in the journal, or there are 64 scars)", () -> {
            CHECK.due("no room", filledBut(0).vault.delete(0, 5000, 6000), 0);
            Probe p = scarred();
            CHECK.due("64 scars", p.vault.delete(0, 0, 63), 0);
        });
        CHECK.sentence("10: from is above to", () -> {
            Probe p = packed(3);
            CHECK.refused("by one", Probe.ARGUMENT, () -> p.vault.delete(0, 1, 0));
            CHECK.refused("by all", Probe.ARGUMENT, () -> p.vault.delete(0, Long.MAX_VALUE, Long.MIN_VALUE));
            CHECK.due("counts", p.counts(), "2 0 1 0 52 0 0 0 3");
            CHECK.due("the same", p.vault.delete(0, 1, 1), 1);
        });
        CHECK.sentence("10: there is no such series", () -> {
            Probe p = packed(3);
            for (int s : new int[] {2, -1, 256, Integer.MIN_VALUE, Integer.MAX_VALUE}) {
                CHECK.refused("delete(" + s + ")", Probe.INDEX, () -> p.vault.delete(s, 0, 9));
            }
            CHECK.due("counts", p.counts(), "2 0 1 0 52 0 0 0 3");
        });
    }

    /** 66 packed points, the first 64 of them deleted one by one, and a point in the head at 100. */
    private static Probe scarred() {
        Probe p = packed(66);
        for (int i = 0; i < 64; i++) {
            p.vault.delete(0, i, i);
        }
        p.vault.append(0, 100, 0);
        return p;
    }

    private static void deleteRefused() {
        CHECK.sentence("10: it would be the 65th scar", () -> {
            Probe p = scarred();
            String before = p.counts();
            CHECK.due("scars", p.vault.count(3), 64);
            CHECK.refused("one of a parcel", Probe.UNSUPPORTED, () -> p.vault.delete(0, 64, 64));
            CHECK.refused("with one of the head", Probe.UNSUPPORTED, () -> p.vault.delete(0, 64, 100));
            CHECK.due("counts", p.counts(), before);
            CHECK.due("of the head alone", p.vault.delete(0, 66, 100), 1);
            CHECK.due("scars", p.vault.count(3), 64);
        });
        CHECK.sentence("10: or there is no room in the journal", () -> {
            Probe p = filledBut(1);
            CHECK.due("the last one that has room", p.vault.delete(0, 0, 4), 5);
            CHECK.refused("one more", Probe.UNSUPPORTED, () -> p.vault.delete(0, 5, 5));
            CHECK.due("counts", p.counts(), "1 244 0 0 12 252 251 125 244");
            p.vault.flush();
            CHECK.due("behind a flush", p.vault.delete(0, 5, 5), 1);
        });
        CHECK.sentence("10: (both asked before a block is written)", () -> {
            Probe p = scarred();
            p.bulkOf(0, 200, 61);
            CHECK.due("the block is full", p.vault.count(5), 126);
            p.vault.cut(0);
            CHECK.refused("the 65th scar", Probe.UNSUPPORTED, () -> p.vault.delete(0, 64, 64));
            CHECK.due("written", p.vault.written(), 3);
            CHECK.refused("of the head: the power goes off", Probe.STATE, () -> p.vault.delete(0, 100, 100));
            Probe q = filledBut(0);
            q.vault.cut(0);
            CHECK.refused("no room", Probe.UNSUPPORTED, () -> q.vault.delete(0, 0, 0));
            CHECK.due("written", q.vault.written(), 1);
        });
        CHECK.sentence("10: the power goes off in it", () -> {
            Probe p = packed(3);
            p.vault.append(0, 9, 0);
            p.vault.sync();
            p.bulkOf(0, 10, 125);
            p.vault.cut(0);
            CHECK.refused("delete", Probe.STATE, () -> p.vault.delete(0, 0, 9));
            CHECK.due("written", p.vault.written(), 4);
            CHECK.due("start()", p.vault.start(), 1);
            CHECK.due("nothing was deleted", p.counts(), "2 1 1 0 52 1 1 1 4");
        });
    }

    private static void scars() {
        CHECK.sentence("Terms 2: those in parcels stay packed, but are not seen", () -> {
            Probe p = packed(4);
            int bits = p.vault.parcel(0, 3);
            p.vault.delete(0, 1, 3);
            CHECK.due("parcel", p.parcel(0), "4 1 1 " + bits + " 1");
            p.vault.delete(0, 0, 0);
            CHECK.due("parcel", p.parcel(0), "4 0 1 " + bits + " 1");
            CHECK.due("it stays", p.vault.count(2), 1);
        });
        CHECK.sentence("Terms 2: lets the points go that a series has then", () -> {
            Probe p = packed(3);
            p.vault.delete(0, 0, 50);
            CHECK.due("one that comes later", p.vault.append(0, 40, 4), 1);
            CHECK.due("seen", p.vault.count(8), 1);
            p.vault.flush();
            CHECK.due("also packed", p.vault.parcel(1, 1), 1);
            CHECK.due("asked", p.asked("sum({})", 0, 60, 1), " 4");
            p.vault.off();
            p.vault.start();
            CHECK.due("when the power came", p.vault.parcel(1, 1), 1);
            p.vault.compact(0);
            CHECK.due("put together", p.vault.count(8), 1);
        });
        CHECK.sentence("Terms 2: (one that let points of the head go alone is none)", () -> {
            Probe p = packed(3);
            p.bulkOf(0, 3, 3);
            CHECK.due("delete", p.vault.delete(0, 3, 5), 3);
            CHECK.due("scars", p.vault.count(3), 0);
            CHECK.due("with one of a parcel", p.vault.delete(0, 2, 5), 1);
            CHECK.due("scars", p.vault.count(3), 1);
        });
        CHECK.sentence("Terms 2: not those that a delete before had let go", () -> {
            Probe p = packed(3);
            p.vault.append(0, 9, 0);
            p.vault.flush();
            p.vault.append(1, 9, 0);
            p.vault.flush();
            p.vault.delete(0, 0, 1);
            p.vault.delete(0, 0, 9);
            CHECK.due("the second let 2 and 9 go", p.vault.count(3), 2);
            p.vault.compact(1);
            CHECK.due("it still has 2", p.vault.count(3), 2);
            p.vault.retain(3);
            CHECK.due("both have ended", p.vault.count(3), 0);
        });
        CHECK.sentence("Terms 2: which ends with the manifest that leaves it none (the points were those of one before)", () -> {
            Probe p = packed(3);
            p.vault.append(0, 9, 0);
            p.vault.flush();
            p.vault.append(1, 9, 0);
            p.vault.flush();
            p.vault.delete(0, 0, 2);
            p.vault.delete(0, 1, 9);
            p.vault.compact(1);
            CHECK.due("the second had 9 alone", p.vault.count(3), 1);
            CHECK.due("its points are not seen", p.asked("count by (a)({})", 0, 100, 1), "c| 1");
        });
        CHECK.sentence("Terms 2: while there are packed points that it let go (the first, and the last, of a parcel)", () -> {
            Probe p = packed(5);
            p.bulkOf(1, 0, 2);
            p.vault.flush();
            p.bulkOf(1, 2, 2);
            p.vault.flush();
            p.vault.delete(0, 0, 0);
            p.vault.compact(1);
            CHECK.due("the first one", p.vault.count(3), 1);
            p.vault.delete(0, 4, 4);
            p.vault.delete(1, 3, 3);
            p.vault.retain(1);
            CHECK.due("the last ones", p.vault.count(3), 3);
            CHECK.due("seen", p.asked("count by (a)({})", 0, 1, 6), "b| . 1 1 1 . .; c| . 1 1 . . .");
        });
        CHECK.sentence("Terms 2: ends with the manifest that leaves it none (others stay as they are)", () -> {
            Probe p = packed(4);
            p.bulkOf(1, 0, 4);
            p.vault.flush();
            p.bulkOf(0, 4, 4);
            p.bulkOf(1, 4, 4);
            p.vault.flush();
            p.vault.delete(0, 1, 2);
            p.vault.delete(1, 5, 6);
            p.vault.delete(1, 1, 1);
            p.vault.delete(0, 5, 5);
            p.vault.compact(0);
            CHECK.due("two have ended", p.vault.count(3), 2);
            String seen = "b| 1 . . 1 1 . 1 1; c| 1 . 1 1 1 . . 1";
            CHECK.due("seen", p.asked("count by (a)({})", 0, 1, 8), seen);
            p.vault.off();
            p.vault.start();
            CHECK.due("scars", p.vault.count(3), 2);
            CHECK.due("when the power came", p.asked("count by (a)({})", 0, 1, 8), seen);
        });
        CHECK.sentence("Terms 2: at most 64 (one that ended makes room)", () -> {
            Probe p = scarred();
            p.vault.append(1, 500, 0);
            p.vault.flush();
            p.vault.compact(0);
            CHECK.due("all have ended", p.vault.count(3), 0);
            CHECK.due("delete", p.vault.delete(0, 64, 64), 1);
            CHECK.due("scars", p.vault.count(3), 1);
        });
    }

    private static void scarsEnd() {
        CHECK.sentence("Terms 2: while there are packed points that it let go (below the horizon or not)", () -> {
            Probe p = packed(10);
            p.vault.delete(0, 2, 4);
            p.vault.retain(5);
            CHECK.due("below the horizon, but packed", p.vault.count(3), 1);
            p.vault.off();
            p.vault.start();
            CHECK.due("in the manifest", p.vault.count(3), 1);
            p.vault.retain(9);
            CHECK.due("packed still", p.vault.count(3), 1);
            p.vault.retain(10);
            CHECK.due("its parcel is gone", p.vault.count(3), 0);
        });
        CHECK.sentence("Terms 2: not those below the horizon before it", () -> {
            Probe p = packed(3);
            p.bulkOf(0, 10, 2);
            p.vault.flush();
            p.vault.append(1, 5, 0);
            p.vault.flush();
            p.vault.retain(2);
            CHECK.due("2, 10 and 11", p.vault.delete(0, 0, 11), 3);
            p.vault.compact(1);
            CHECK.due("2 is packed still", p.vault.count(3), 1);
            Probe q = packed(3);
            q.bulkOf(0, 10, 2);
            q.vault.flush();
            q.vault.append(1, 5, 0);
            q.vault.flush();
            q.vault.retain(2);
            CHECK.due("2", q.vault.delete(0, 2, 2), 1);
            CHECK.due("10 and 11", q.vault.delete(0, 0, 11), 2);
            q.vault.compact(1);
            CHECK.due("the second one let none go that is packed", q.vault.count(3), 1);
        });
        CHECK.sentence("Terms 2: ends with the manifest that leaves it none (a flush leaves it as it is)", () -> {
            Probe p = packed(3);
            p.vault.delete(0, 0, 2);
            p.vault.flush();
            CHECK.due("scars", p.vault.count(3), 1);
            CHECK.due("parcel", p.vault.parcel(0, 1), 0);
            p.vault.off();
            CHECK.due("start()", p.vault.start(), 0);
            CHECK.due("scars", p.vault.count(3), 1);
            p.vault.retain(3);
            CHECK.due("scars", p.vault.count(3), 0);
        });
        CHECK.sentence("Terms 2: a delete whose points are not seen any more lets none go, and makes no second scar", () -> {
            Probe p = packed(3);
            p.vault.append(1, 1, 1);
            p.vault.flush();
            p.vault.append(1, 2, 2);
            p.vault.delete(0, 0, 1);
            p.vault.retain(1);
            p.vault.off();
            CHECK.due("start()", p.vault.start(), 2);
            CHECK.due("one scar", p.vault.count(3), 1);
            p.vault.compact(0);
            CHECK.due("it has ended", p.vault.count(3), 0);
            p.vault.off();
            CHECK.due("start()", p.vault.start(), 2);
            CHECK.due("none came again", p.counts(), "2 1 1 0 52 2 2 2 3");
        });
    }

    private static void sync() {
        CHECK.sentence("11: syncs: whether a block was written", () -> {
            Probe p = new Probe();
            CHECK.due("nothing came", p.vault.sync(), false);
            p.series("a=b");
            CHECK.due("a series", p.vault.sync(), true);
            CHECK.due("written", p.vault.written(), 1);
            CHECK.due("again", p.vault.sync(), false);
            p.vault.append(0, 1, 1);
            CHECK.due("a point", p.vault.sync(), true);
            p.vault.delete(0, 1, 1);
            CHECK.due("a delete", p.vault.sync(), true);
            CHECK.due("written", p.vault.written(), 3);
            p.vault.delete(0, 1, 1);
            p.series("a=b");
            CHECK.due("nothing new", p.vault.sync(), false);
        });
        CHECK.sentence("Terms 2: if it is not on the disk as it is (behind a flush, and behind a start)", () -> {
            Probe p = two();
            p.vault.flush();
            CHECK.due("the journal is empty", p.vault.sync(), false);
            p.vault.append(0, 1, 1);
            p.vault.sync();
            p.vault.append(0, 2, 2);
            p.vault.off();
            p.vault.start();
            CHECK.due("as it is on the disk", p.vault.sync(), false);
            p.vault.append(0, 2, 2);
            CHECK.due("a new record", p.vault.sync(), true);
        });
        CHECK.sentence("Terms 2: if it is not on the disk as it is (a full one, and the next one)", () -> {
            Probe p = two();
            p.bulkOf(0, 0, 122);
            CHECK.due("full", p.vault.sync(), true);
            CHECK.due("again", p.vault.sync(), false);
            p.vault.append(0, 200, 0);
            CHECK.due("the full one is not written again", p.vault.written(), 1);
            CHECK.due("the next one", p.vault.sync(), true);
            CHECK.due("kept", p.vault.count(7), 125);
        });
        CHECK.sentence("11: the power goes off in it", () -> {
            Probe p = two();
            p.vault.cut(0);
            CHECK.refused("sync()", Probe.STATE, () -> p.vault.sync());
            CHECK.due("written", p.vault.written(), 0);
            CHECK.due("start()", p.vault.start(), 0);
            CHECK.due("none was kept", p.vault.count(0), 0);
        });
    }

    private static void journal() {
        CHECK.sentence("Terms 2: its blocks take 126 units each", () -> {
            Probe p = two();
            p.bulkOf(0, 0, 121);
            CHECK.due("125 units", p.vault.count(5), 125);
            p.vault.append(0, 200, 0);
            CHECK.due("126 units", p.vault.count(5), 126);
            CHECK.due("a full block is not written for that", p.vault.written(), 0);
            p.vault.append(0, 201, 0);
            CHECK.due("127 units: the one before is written", p.vault.written(), 1);
            CHECK.due("kept", p.vault.count(7), 124);
        });
        CHECK.sentence("Terms 2: a record that has not room enough in the block that is filled begins the next one", () -> {
            Probe p = two();
            p.bulkOf(0, 0, 120);
            CHECK.due("124 units", p.vault.count(5), 124);
            p.series(W24 + "=" + W24);
            CHECK.due("3 units more", p.vault.count(5), 127);
            CHECK.due("the one before is written", p.vault.written(), 1);
            CHECK.due("without it", p.vault.count(7), 122);
            p.bulkOf(0, 200, 123);
            CHECK.due("123 more fill the next one", p.vault.written(), 1);
            p.vault.append(0, 400, 0);
            CHECK.due("one more", p.vault.written(), 2);
            CHECK.due("what blocks have left over is none", p.vault.count(5), 251);
        });
        CHECK.sentence("Terms 2: a record that has just room enough stays in the block", () -> {
            Probe p = two();
            p.bulkOf(0, 0, 119);
            p.series(W24 + "=" + W24);
            CHECK.due("126 units", p.vault.count(5), 126);
            CHECK.due("nothing is written", p.vault.written(), 0);
            p.vault.append(0, 300, 0);
            CHECK.due("kept with it", p.vault.count(7), 122);
        });
        CHECK.sentence("Terms 2: a point 1; a delete 1", () -> {
            Probe p = packed(3);
            p.vault.append(0, 5, 5);
            CHECK.due("a point", p.vault.count(5), 1);
            p.vault.delete(0, 0, 5);
            CHECK.due("a delete of four", p.vault.count(5), 2);
            CHECK.due("records", p.vault.count(6), 2);
        });
        CHECK.sentence("Terms 2: then that one before is written, if it is not on the disk as it is (for each kind of record)", () -> {
            for (int kind = 0; kind < 6; kind++) {
                Probe p = two();
                p.bulkOf(0, 0, 122);
                if (kind < 3) {
                    p.vault.sync();
                }
                if (kind % 3 == 0) {
                    p.series("n=n");
                } else if (kind % 3 == 1) {
                    p.vault.append(0, 500, 0);
                } else {
                    p.vault.delete(0, 0, 3);
                }
                CHECK.due("written", p.vault.written(), 1);
                CHECK.due("kept", p.vault.count(7), 124);
                CHECK.due("records", p.vault.count(6), 125);
            }
        });
    }

    private static void journalRefuses() {
        CHECK.sentence("Terms 2: when there is no next one, the record is refused (that is asked first: nothing is written)", () -> {
            Probe p = filledBut(2);
            p.vault.cut(0);
            Tape.put(p.vault, W24 + "=" + W24);
            CHECK.refused("3 units in 2", Probe.UNSUPPORTED, () -> p.vault.series());
            CHECK.due("written", p.vault.written(), 1);
            CHECK.due("kept", p.vault.count(7), 125);
            CHECK.due("2 units in 2", p.series("c=d"), 1);
            CHECK.refused("a point", Probe.UNSUPPORTED, () -> p.vault.append(0, 999, 0));
            CHECK.refused("a delete", Probe.UNSUPPORTED, () -> p.vault.delete(0, 0, 0));
            CHECK.due("written", p.vault.written(), 1);
        });
        CHECK.sentence("Terms 2: a record that is refused leaves the block as it is filled", () -> {
            Probe p = filledBut(1);
            Tape.put(p.vault, "c=d");
            CHECK.refused("2 units in 1", Probe.UNSUPPORTED, () -> p.vault.series());
            CHECK.due("1 unit in 1", p.vault.append(0, 999, 0), 250);
        });
    }

    private static void journalKept() {
        CHECK.sentence("Terms 2: a record is kept when its block was written with it", () -> {
            Probe p = two();
            p.vault.append(0, 1, 1);
            CHECK.due("none yet", p.vault.count(7), 0);
            p.vault.sync();
            CHECK.due("three", p.vault.count(7), 3);
            p.vault.append(0, 2, 2);
            CHECK.due("not the fourth", p.vault.count(7), 3);
            p.vault.off();
            CHECK.due("start()", p.vault.start(), 3);
            CHECK.due("counts", p.counts(), "2 1 0 0 54 5 3 3 1");
        });
        CHECK.sentence("Terms 2: (the journal goes on behind the last record that was kept, in its block)", () -> {
            Probe p = two();
            p.bulkOf(0, 0, 100);
            p.vault.sync();
            p.bulkOf(0, 200, 10);
            p.vault.off();
            p.vault.start();
            CHECK.due("units", p.vault.count(5), 104);
            p.bulkOf(0, 300, 22);
            CHECK.due("22 have room", p.vault.written(), 1);
            p.vault.append(0, 400, 0);
            CHECK.due("one more has not", p.vault.written(), 2);
            CHECK.due("kept", p.vault.count(7), 124);
        });
        CHECK.sentence("Terms 2: (.. in its block), though one that was not kept had begun the next one", () -> {
            Probe p = two();
            p.bulkOf(0, 0, 121);
            p.series("n=n");
            CHECK.due("the first block is written", p.vault.written(), 1);
            p.vault.off();
            CHECK.due("start()", p.vault.start(), 123);
            CHECK.due("units", p.vault.count(5), 125);
            p.vault.append(0, 500, 0);
            CHECK.due("the first block takes one more", p.vault.sync(), true);
            p.vault.append(0, 501, 0);
            CHECK.due("and is not written again", p.vault.written(), 2);
        });
        CHECK.sentence("Terms 2: (.. in its block), which is the second one", () -> {
            Probe p = filledBut(10);
            p.vault.sync();
            p.vault.append(0, 500, 0);
            p.vault.off();
            CHECK.due("start()", p.vault.start(), 241);
            CHECK.due("10 have room", p.bulkOf(0, 600, 20), 10);
        });
    }

    private static void journalLeftOver() {
        CHECK.sentence("Terms 2: what a block has left over takes no record later (of three blocks)", () -> {
            Probe p = new Probe();
            p.vault.format(16, 3);
            p.series("a=b");
            p.bulkOf(0, 0, 123);
            p.series("c=d");
            CHECK.due("1 unit is left over", p.vault.written(), 1);
            CHECK.due("124 and 126 have room", p.bulkOf(0, 200, 251), 250);
            CHECK.due("units", p.vault.count(5), 125 + 252);
        });
        CHECK.sentence("Terms 2: what a block has left over takes no record later (when the power came, too)", () -> {
            Probe p = new Probe();
            p.vault.format(16, 2);
            p.series("a=b");
            p.bulkOf(0, 0, 123);
            p.series("c=d");
            p.vault.sync();
            p.vault.off();
            CHECK.due("start()", p.vault.start(), 125);
            CHECK.due("124 have room in the second block", p.bulkOf(0, 200, 130), 124);
            CHECK.due("units", p.vault.count(5), 125 + 126);
            CHECK.due("written", p.vault.written(), 2);
        });
    }

    private static void head() {
        CHECK.sentence("Terms 2: the head: those below a horizon that moved, or deleted, are in it no more", () -> {
            Probe p = two();
            p.bulkOf(0, 0, 10);
            p.bulkOf(1, 0, 10);
            p.vault.delete(1, 3, 9);
            CHECK.due("deleted", p.vault.count(1), 13);
            CHECK.due("those that are seen no more", p.vault.retain(5), 8);
            CHECK.due("below the horizon", p.vault.count(1), 5);
            CHECK.due("records stay", p.vault.count(6), 23);
            p.vault.flush();
            CHECK.due("parcel", p.vault.parcel(0, 0), 5);
            CHECK.due("chunks", p.vault.parcel(0, 2), 1);
        });
    }
}
