/** Promises 12 to 14, 20, 21 and 23 to 26: parcels, the horizon, what is counted, and the power. */
public final class DiskTest {
    private static final long MAX_TIME = 1099511627775L;
    private static final Check CHECK = new Check();

    private DiskTest() {
    }

    public static void main(String[] args) {
        flush();
        flushLimits();
        flushCatalog();
        flushPower();
        chunks();
        chunksApart();
        fullBlock();
        compact();
        compactLimits();
        compactPower();
        retain();
        retainPower();
        scars();
        scarsOfSeveral();
        count();
        parcel();
        written();
        cut();
        off();
        start();
        startAgainAndAgain();
        startBehindHorizon();
        CHECK.finish("DiskTest");
    }

    /** A vault with series a=b and a parcel for each row of times. */
    private static Probe packed(long[]... times) {
        Probe p = new Probe();
        p.series("a=b");
        p.series("a=c");
        for (long[] row : times) {
            for (long time : row) {
                p.vault.append(0, time, time);
            }
            p.vault.flush();
        }
        return p;
    }

    private static void flush() {
        Probe p = new Probe();
        CHECK.due("12: no records", p.vault.flush(), 0);
        p.series("a=b");
        CHECK.due("12: no points: catalog and manifest", p.vault.flush(), 2);
        CHECK.due("12: counts", p.counts(), "1 0 0 0 53 0 0 0 0");
        p.vault.append(0, 1, 1);
        p.vault.append(0, 2, 1);
        CHECK.due("12: parcel, catalog, manifest", p.vault.flush(), 3);
        CHECK.due("12: counts", p.counts(), "1 0 1 0 52 0 0 0 2");
        CHECK.due("12: records not on the disk are not written", p.vault.written(), 5);
        p.vault.append(0, 3, 1);
        p.vault.delete(0, 3, 3);
        CHECK.due("12: records, but no points", p.vault.flush(), 2);
        CHECK.due("12: parcels", p.vault.count(2), 1);
        CHECK.due("12: no records again", p.vault.flush(), 0);
        p.vault.off();
        CHECK.refused("12: without power", Probe.STATE, () -> p.vault.flush());
        CHECK.due("12: start()", p.vault.start(), 0);
        CHECK.due("12: all is kept", p.counts(), "1 0 1 0 52 0 0 0 2");
        CHECK.due("12: last", p.vault.last(0), 3);
        CHECK.due("12: newest one last", packed(new long[] {5, 6}, new long[] {7}).parcel(1).charAt(0), '1');
    }

    private static void flushLimits() {
        Probe p = new Probe();
        p.series("a=b");
        for (int i = 0; i < 32; i++) {
            p.vault.append(0, i, i);
            CHECK.due("12: flush", p.vault.flush(), 3);
        }
        p.vault.append(0, 40, 0);
        CHECK.refused("12: the 33rd parcel", Probe.UNSUPPORTED, () -> p.vault.flush());
        CHECK.due("12: nothing is changed", p.counts(), "1 1 32 0 21 1 1 0 33");
        p.vault.delete(0, 40, 40);
        CHECK.due("12: without points it goes", p.vault.flush(), 2);
        CHECK.due("12: parcels", p.vault.count(2), 32);
        Probe q = new Probe();
        q.vault.format(16, 8);
        q.series("a=b");
        CHECK.due("12: free", q.vault.count(4), 6);
        for (int i = 0; i < 4; i++) {
            q.vault.append(0, i, i);
            CHECK.due("12: flush " + i, q.vault.flush(), 3);
        }
        CHECK.due("12: free", q.vault.count(4), 1);
        q.vault.append(0, 50, 0);
        CHECK.refused("12: two blocks are needed", Probe.UNSUPPORTED, () -> q.vault.flush());
        CHECK.due("12: nothing is written", q.vault.written(), 12);
        q.vault.delete(0, 50, 50);
        CHECK.due("12: one for the catalog is free", q.vault.flush(), 2);
        CHECK.due("12: the one before is free then", q.vault.count(4), 1);
    }

    private static void flushCatalog() {
        Probe p = new Probe();
        String word = "abcdefghijklmnopqrstuvwx";
        String tail = "=" + word + ",b=" + word + ",c=" + word + ",d=" + word + ",e=" + word;
        for (int i = 0; i < 22; i++) {
            CHECK.due("12: series", p.series("a" + (char) ('a' + i) + tail), i);
        }
        CHECK.due("12: 21 of 6 units fill a block", p.vault.flush(), 3);
        CHECK.due("12: free", p.vault.count(4), 52);
        Probe q = new Probe();
        for (int i = 0; i < 25; i++) {
            q.series("a" + (char) ('a' + i) + tail.substring(0, tail.length() - 27));
        }
        q.series("aaaaaaaaaaaaaaaaaaaaaaaa=" + word);
        CHECK.due("12: units", q.vault.count(5), 25 * 5 + 3);
        CHECK.due("12: a record is not parted", q.vault.flush(), 3);
        Probe r = new Probe();
        for (int i = 0; i < 63; i++) {
            r.series("n=" + i);
        }
        CHECK.due("12: 126 units in one block", r.vault.flush(), 2);
        r.series("n=x");
        CHECK.due("12: 128 in two", r.vault.flush(), 3);
    }

    private static void flushPower() {
        for (int n = 0; n < 3; n++) {
            Probe p = packed(new long[] {1, 2});
            p.vault.append(0, 3, 3);
            p.vault.sync();
            p.vault.append(0, 4, 4);
            int before = p.vault.written();
            p.vault.cut(n);
            CHECK.refused("12: the power goes", Probe.STATE, () -> p.vault.flush());
            CHECK.due("12: what was written stays", p.vault.written(), before + n);
            CHECK.due("12: start()", p.vault.start(), 1);
            CHECK.due("12: as if it had not been", p.counts(), "2 1 1 0 52 1 1 1 3");
            CHECK.due("12: last", p.vault.last(0), 3);
        }
        Probe p = packed(new long[] {1, 2});
        p.vault.append(0, 3, 3);
        p.vault.cut(3);
        CHECK.due("12: just enough", p.vault.flush(), 3);
        p.vault.off();
        CHECK.due("12: start()", p.vault.start(), 0);
        CHECK.due("12: all of it", p.counts(), "2 0 2 0 51 0 0 0 3");
    }

    /** Bits of a parcel with one series, less the 64 and 104 of its beginning. */
    private static int bits(long... numbers) {
        Probe p = new Probe();
        p.series("a=b");
        p.bulk(0, numbers);
        p.vault.flush();
        return p.vault.parcel(0, 3) - 168;
    }

    private static void chunks() {
        CHECK.due("21: one point", bits(5, 7), 0);
        long[][] turns = {{0, 1}, {-1, 9}, {1, 9}, {-64, 9}, {63, 9}, {-65, 13}, {64, 13}, {-512, 13}, {511, 13}, {-513, 17},
            {512, 17}, {-4096, 17}, {4095, 17}, {-4097, 45}, {4096, 45}, {1000000, 45}};
        for (long[] turn : turns) {
            CHECK.due("21: turn " + turn[0], bits(0, 5, 5000, 5, 10000 + turn[0], 5) - 45 - 1, turn[1] + 1);
        }
        CHECK.due("21: the second point's turn is its step", bits(100, 5, 163, 5), 9 + 1);
        CHECK.due("21: step 64", bits(100, 5, 164, 5), 13 + 1);
        CHECK.due("21: step 1", bits(0, 5, 1, 5, 2, 5), 9 + 1 + 1 + 1);
        CHECK.due("21: all 64 differ", bits(0, 0, 1, -1), 9 + 13 + 64);
        CHECK.due("21: one in the middle", bits(0, 0, 1, 1L << 40), 9 + 13 + 1);
        CHECK.due("21: 31 above at most", bits(0, 0, 1, 1), 9 + 13 + 33);
        CHECK.due("21: 31 above", bits(0, 0, 1, 1L << 32), 9 + 13 + 1);
        CHECK.due("21: 32 above count 31", bits(0, 0, 1, 1L << 31), 9 + 13 + 2);
        CHECK.due("21: in the frame", bits(0, 0, 1, 0xff00, 2, 0xff00 ^ 0x100), 9 + 13 + 25 + 1 + 2 + 25);
        CHECK.due("21: below the frame", bits(0, 0, 1, 0xff00, 2, 0xff00 ^ 0x80), 9 + 13 + 25 + 1 + 13 + 26);
        CHECK.due("21: above the frame", bits(0, 0, 1, 1L << 40, 2, 1L << 41 | 1L << 40), 9 + 13 + 1 + 1 + 13 + 1);
        CHECK.due("21: the same keeps the frame", bits(0, 0, 1, 3L << 40, 2, 3L << 40, 3, 1L << 40), 9 + 15 + 1 + 1 + 1 + 4);
        CHECK.due("21: a new frame counts from there on", bits(0, 0, 1, -1, 2, -2, 3, -4), 9 + 77 + 1 + 66 + 1 + 66);
        CHECK.due("21: it is the latest one",
                bits(0, 0, 1, 1L << 40, 2, 3L << 40, 3, 2L << 40), 9 + 14 + 1 + 14 + 1 + 14);
    }

    private static void chunksApart() {
        Probe p = new Probe();
        p.series("a=b");
        p.series("a=c");
        p.bulk(1, 5000, 0, 10000, 1L << 40);
        p.bulk(0, 0, 0, 5000, -1, 10000, 0);
        p.vault.flush();
        CHECK.due("21: no frame and no step at the beginning", p.vault.parcel(0, 3), 2 * 168 + 45 + 77 + 1 + 66 + 45 + 14);
        CHECK.due("21: the order in which they came does not count", p.vault.parcel(0, 2), 2);
        p.bulk(1, 20000, 7);
        p.bulk(0, 20000, 7);
        p.vault.flush();
        p.vault.compact(0);
        CHECK.due("21: put together", p.parcel(0), "7 7 2 " + (2 * 168 + 45 + 77 + 1 + 66 + 45 + 66 + 45 + 14 + 45 + 13 + 41) + " 1");
    }

    /** 289 points of 32147 bits in all, then some that have 2 bits, and perhaps one of 67. */
    private static Probe nearlyFull(int more, boolean changes) {
        long[] numbers = new long[2 * (289 + more)];
        long time = 0;
        for (int i = 0; i < 289 + more; i++) {
            time += i < 289 ? i % 2 == 0 ? 100 : 9900 : 100;
            numbers[2 * i] = time;
            numbers[2 * i + 1] = i < 289 ? i % 2 == 0 ? 0 : -1 : changes ? -1 : 0;
        }
        Probe p = new Probe();
        p.series("a=b");
        CHECK.due("21: points", p.bulk(0, numbers), 289 + more);
        p.vault.flush();
        return p;
    }

    private static void fullBlock() {
        Probe full = nearlyFull(22, true);
        CHECK.due("21: a full block", full.parcel(0), "311 311 1 32256 1");
        Probe more = nearlyFull(55, false);
        CHECK.due("21: a bit more", more.parcel(0), "344 344 1 32257 2");
        CHECK.due("21: free", more.vault.count(4), full.vault.count(4) - 1);
    }

    private static void compact() {
        Probe p = packed(new long[] {1, 2}, new long[] {3}, new long[] {4, 5});
        CHECK.refused("13: k = 2", Probe.INDEX, () -> p.vault.compact(2));
        CHECK.refused("13: k = -1", Probe.INDEX, () -> p.vault.compact(-1));
        CHECK.refused("13: k = greatest", Probe.INDEX, () -> p.vault.compact(Integer.MAX_VALUE));
        CHECK.refused("13: k = least", Probe.INDEX, () -> p.vault.compact(Integer.MIN_VALUE));
        CHECK.due("13: parcel and manifest", p.vault.compact(1), 2);
        CHECK.due("13: counts", p.counts(), "2 0 2 0 51 0 0 0 5");
        CHECK.due("13: in their place", p.vault.parcel(1, 0), 3);
        CHECK.due("13: the one before stays", p.vault.parcel(0, 0), 2);
        p.vault.append(1, 3, 3);
        p.vault.delete(0, 2, 4);
        CHECK.due("13: scars", p.vault.count(3), 1);
        CHECK.due("13: sync, parcel, manifest", p.vault.compact(0), 3);
        CHECK.due("13: what is seen alone", p.vault.parcel(0, 0), 2);
        CHECK.due("13: counts", p.counts(), "2 1 1 0 52 2 2 2 3");
        CHECK.due("13: times", p.asked("first({a=\"b\"})", 0, 1, 7), " . 1 . . . 5 .");
        p.vault.off();
        CHECK.due("13: start()", p.vault.start(), 2);
        CHECK.due("13: counts", p.counts(), "2 1 1 0 52 2 2 2 3");
        CHECK.refused("13: one alone", Probe.INDEX, () -> p.vault.compact(0));
        Probe q = packed(new long[] {1}, new long[] {2});
        q.vault.delete(0, 0, 9);
        q.vault.sync();
        CHECK.due("13: none is left", q.vault.compact(0), 1);
        CHECK.due("13: counts", q.counts(), "2 0 0 0 53 1 1 1 0");
        q.vault.off();
        CHECK.refused("13: without power", Probe.STATE, () -> q.vault.compact(5));
        Probe r = packed(new long[] {1, 20}, new long[] {21}, new long[] {30});
        r.vault.retain(10);
        r.vault.compact(0);
        CHECK.due("13: below the horizon are gone", r.vault.parcel(0, 0), 2);
        CHECK.due("13: the next one has moved", r.vault.parcel(1, 0), 1);
    }

    /** One parcel of points that have 111 bits each, or more. */
    private static void addDearParcel(Probe p, int s, long from, int n) {
        long[] numbers = new long[2 * n];
        for (int i = 0; i < n; i++) {
            numbers[2 * i] = from + i * 5000L + (i % 2 == 0 ? 0 : 4900);
            numbers[2 * i + 1] = i % 2 == 0 ? 0 : -1L;
        }
        CHECK.due("13: points", p.bulk(s, numbers), n);
        p.vault.flush();
    }

    private static void compactLimits() {
        Probe p = new Probe();
        p.vault.format(16, 8);
        p.series("a=b");
        addDearParcel(p, 0, 0, 150);
        addDearParcel(p, 0, 10000000L, 150);
        p.vault.append(0, 20000000L, 0);
        p.vault.flush();
        p.vault.append(0, 30000000L, 0);
        p.vault.flush();
        CHECK.due("13: four parcels of one block", p.counts(), "1 0 4 0 1 0 0 0 302");
        p.vault.append(0, 40000000L, 0);
        int before = p.vault.written();
        CHECK.refused("13: two blocks are needed", Probe.UNSUPPORTED, () -> p.vault.compact(0));
        CHECK.due("13: asked before it is synced", p.vault.count(7), 0);
        CHECK.due("13: nothing is written", p.vault.written(), before);
        CHECK.due("13: sync, a block, the manifest", p.vault.compact(2), 3);
        CHECK.due("13: free", p.vault.count(4), 2);
        CHECK.due("13: just enough", p.vault.compact(0), 3);
        CHECK.due("13: two blocks", p.vault.parcel(0, 4), 2);
        CHECK.due("13: free again", p.vault.count(4), 2);
        p.vault.delete(0, 0, 30000000L);
        CHECK.due("13: none is needed for nothing", p.vault.compact(0), 2);
        CHECK.due("13: free", p.vault.count(4), 5);
    }

    private static void compactPower() {
        for (int n = 0; n < 3; n++) {
            Probe p = packed(new long[] {1, 2}, new long[] {3});
            p.vault.append(0, 5, 5);
            p.vault.delete(0, 2, 3);
            int before = p.vault.written();
            p.vault.cut(n);
            CHECK.refused("13: the power goes", Probe.STATE, () -> p.vault.compact(0));
            CHECK.due("13: written", p.vault.written(), before + n);
            CHECK.due("13: start()", p.vault.start(), n == 0 ? 0 : 2);
            CHECK.due("13: counts", p.counts(), n == 0 ? "2 0 2 0 51 0 0 0 3" : "2 1 2 1 51 2 2 2 2");
        }
    }

    private static void retain() {
        Probe p = packed(new long[] {1, 2}, new long[] {3, 8}, new long[] {9});
        p.vault.append(0, 10, 10);
        p.vault.append(0, 11, 11);
        CHECK.refused("14: time -1", Probe.ARGUMENT, () -> p.vault.retain(-1));
        CHECK.refused("14: time too great", Probe.ARGUMENT, () -> p.vault.retain(MAX_TIME + 1));
        int before = p.vault.written();
        CHECK.due("14: the horizon that there is", p.vault.retain(0), 0);
        CHECK.due("14: nothing is done", p.vault.written(), before);
        CHECK.due("14: retain(3)", p.vault.retain(3), 2);
        CHECK.due("14: sync and manifest", p.vault.written(), before + 2);
        CHECK.due("14: a parcel is gone", p.counts(), "2 2 2 0 51 2 2 2 5");
        CHECK.due("14: retain(4)", p.vault.retain(4), 1);
        CHECK.due("14: manifest alone", p.vault.written(), before + 3);
        CHECK.due("14: it stays for its other point", p.parcel(0), "2 1 1 " + p.vault.parcel(0, 3) + " 1");
        CHECK.refused("14: retain(3)", Probe.ARGUMENT, () -> p.vault.retain(3));
        CHECK.due("14: the same", p.vault.retain(4), 0);
        CHECK.due("14: of the head, too", p.vault.retain(11), 3);
        CHECK.due("14: counts", p.counts(), "2 1 0 0 53 2 2 2 1");
        CHECK.due("14: the latest time", p.vault.retain(MAX_TIME), 1);
        p.vault.off();
        CHECK.refused("14: without power", Probe.STATE, () -> p.vault.retain(-1));
        p.vault.start();
        CHECK.refused("14: it is kept", Probe.ARGUMENT, () -> p.vault.retain(11));
        Probe q = packed(new long[] {1, 2});
        q.vault.delete(0, 2, 2);
        CHECK.due("14: not seen before", q.vault.retain(2), 1);
        CHECK.due("14: all points count, also deleted ones", q.vault.count(2), 1);
        CHECK.due("14: none was seen", q.vault.retain(3), 0);
        CHECK.due("14: gone with its scar", q.counts(), "2 0 0 0 53 1 1 1 0");
    }

    private static void retainPower() {
        for (int n = 0; n < 2; n++) {
            Probe p = packed(new long[] {1, 2}, new long[] {3});
            p.vault.append(0, 5, 5);
            p.vault.cut(n);
            CHECK.refused("14: the power goes", Probe.STATE, () -> p.vault.retain(4));
            CHECK.due("14: start()", p.vault.start(), n);
            CHECK.due("14: seen", p.vault.count(8), 3 + n);
            CHECK.due("14: parcels", p.vault.count(2), 2);
            CHECK.due("14: the horizon did not move", p.vault.retain(1), 0);
        }
    }

    private static void scars() {
        Probe p = packed(new long[] {1, 2, 3}, new long[] {4, 5}, new long[] {6});
        p.vault.delete(0, 2, 4);
        p.vault.delete(0, 1, 5);
        p.vault.delete(0, 6, 6);
        CHECK.due("10: scars", p.vault.count(3), 3);
        p.vault.append(1, 9, 9);
        p.vault.flush();
        CHECK.due("10: a flush ends none", p.vault.count(3), 3);
        p.vault.compact(1);
        CHECK.due("10: the first two have points in parcel 0", p.vault.count(3), 2);
        CHECK.due("10: parcels", p.vault.count(2), 2);
        p.vault.retain(3);
        CHECK.due("10: below the horizon or not", p.vault.count(3), 2);
        p.vault.off();
        p.vault.start();
        CHECK.due("10: in the manifest", p.vault.count(3), 2);
        CHECK.due("10: still not seen", p.vault.parcel(0, 1), 0);
        p.vault.retain(4);
        CHECK.due("10: the parcel is gone", p.vault.count(3), 0);
        Probe q = packed(new long[] {1, 2, 3});
        q.vault.delete(0, 2, 3);
        q.vault.retain(2);
        q.vault.off();
        CHECK.due("26: the delete is done again", q.vault.start(), 1);
        CHECK.due("26: it makes no second scar", q.vault.count(3), 1);
        Probe r = packed(new long[] {1, 2, 3});
        r.vault.retain(2);
        r.vault.delete(0, 0, 3);
        CHECK.due("10: a point below the horizon is not let go by it", r.vault.count(3), 1);
        r.vault.append(0, 4, 4);
        r.vault.flush();
        CHECK.due("10: nor one that came later", r.vault.parcel(1, 1), 1);
        r.vault.compact(0);
        CHECK.due("10: scars", r.vault.count(3), 0);
        CHECK.due("10: seen", r.vault.count(8), 1);
    }

    private static void scarsOfSeveral() {
        Probe p = new Probe();
        p.series("a=b");
        p.series("a=c");
        p.bulkOf(0, 0, 5);
        p.vault.flush();
        p.bulkOf(0, 5, 5);
        p.bulkOf(1, 0, 10);
        p.vault.flush();
        p.bulkOf(1, 10, 3);
        p.vault.flush();
        p.vault.delete(0, 1, 2);
        p.vault.delete(1, 11, 11);
        p.vault.delete(1, 3, 4);
        p.vault.delete(0, 7, 7);
        CHECK.due("10: scars", p.vault.count(3), 4);
        p.vault.compact(0);
        CHECK.due("10: the one in the last parcel stays", p.vault.count(3), 1);
        CHECK.due("10: its series and times", p.asked("count by (a)({})", 0, 1, 13), "b| 1 . . 1 1 1 1 . 1 1 . . .; c| 1 1 1 . . 1 1 1 1 1 1 . 1");
        p.vault.delete(1, 0, 12);
        CHECK.due("10: scars", p.vault.count(3), 2);
        p.vault.append(0, MAX_TIME, 5);
        p.vault.flush();
        CHECK.due("20: the latest time is seen", p.vault.count(8), 8);
        CHECK.due("20: in its parcel", p.vault.parcel(2, 1), 1);
        p.vault.off();
        p.vault.start();
        CHECK.due("26: seen", p.asked("count by (a)({})", 0, 1, 13), "b| 1 . . 1 1 1 1 . 1 1 . . .");
    }

    private static void count() {
        Probe p = packed(new long[] {1, 2});
        CHECK.refused("20: count(-1)", Probe.ARGUMENT, () -> p.vault.count(-1));
        CHECK.refused("20: count(9)", Probe.ARGUMENT, () -> p.vault.count(9));
        p.vault.append(0, 3, 3);
        p.vault.sync();
        p.vault.append(1, 3, 3);
        p.vault.delete(0, 1, 1);
        p.series("ccccccccccc=ddddddddddddddddddd,e=ffffffff");
        CHECK.due("20: counts", p.counts(), "3 2 1 1 52 6 4 1 3");
        p.vault.off();
        CHECK.refused("20: without power", Probe.STATE, () -> p.vault.count(-1));
    }

    private static void parcel() {
        Probe p = packed(new long[] {1, 2, 3});
        p.vault.append(1, 9, 9);
        p.vault.append(0, 8, 8);
        p.vault.flush();
        CHECK.due("21: of two series", p.parcel(1), "2 2 2 336 1");
        p.vault.delete(0, 2, 9);
        CHECK.due("21: chunks of points seen or not", p.parcel(1), "2 1 2 336 1");
        CHECK.due("21: parcel 0", p.vault.parcel(0, 1), 1);
        CHECK.refused("21: what = -1", Probe.ARGUMENT, () -> p.vault.parcel(0, -1));
        CHECK.refused("21: what = 5", Probe.ARGUMENT, () -> p.vault.parcel(1, 5));
        CHECK.refused("21: k = 2", Probe.INDEX, () -> p.vault.parcel(2, 9));
        CHECK.refused("21: k = -1", Probe.INDEX, () -> p.vault.parcel(-1, 0));
        p.vault.retain(9);
        CHECK.due("21: below the horizon", p.parcel(0), "2 1 2 336 1");
        p.vault.off();
        CHECK.refused("21: without power", Probe.STATE, () -> p.vault.parcel(7, 7));
    }

    private static void written() {
        Probe p = packed(new long[] {1}, new long[] {2});
        CHECK.due("23: two flushes", p.vault.written(), 6);
        p.vault.append(0, 3, 3);
        p.vault.sync();
        p.vault.compact(0);
        p.vault.retain(1);
        CHECK.due("23: written()", p.vault.written(), 10);
        p.vault.off();
        CHECK.due("23: without power", p.vault.written(), 10);
        p.vault.start();
        CHECK.due("23: with those of other sessions", p.vault.written(), 10);
        p.vault.format(16, 2);
        CHECK.due("23: since the format", p.vault.written(), 0);
    }

    private static void cut() {
        Probe p = packed(new long[] {1});
        CHECK.refusedAct("24: cut(-2)", Probe.ARGUMENT, () -> p.vault.cut(-2));
        p.vault.cut(0);
        p.vault.cut(2);
        p.vault.append(0, 2, 2);
        CHECK.due("24: the first block", p.vault.sync(), true);
        p.vault.append(0, 3, 3);
        CHECK.due("24: the second", p.vault.sync(), true);
        p.vault.append(0, 4, 4);
        CHECK.refused("24: not the third", Probe.STATE, () -> p.vault.sync());
        CHECK.due("24: written", p.vault.written(), 5);
        CHECK.refusedAct("24: without power", Probe.STATE, () -> p.vault.cut(-2));
        p.vault.start();
        p.vault.append(0, 5, 5);
        CHECK.due("24: no cut is set then", p.vault.sync(), true);
        p.vault.cut(0);
        p.vault.cut(SeriesVault.NONE);
        p.vault.append(0, 6, 6);
        CHECK.due("24: none with NONE", p.vault.sync(), true);
        p.vault.cut(0);
        CHECK.due("24: nothing is to be written", p.vault.sync(), false);
        p.vault.off();
        p.vault.start();
        p.vault.append(0, 7, 7);
        CHECK.refused("24: a cut that is set stays", Probe.STATE, () -> p.vault.sync());
    }

    private static void off() {
        Probe p = packed(new long[] {1});
        p.vault.append(0, 2, 2);
        p.vault.off();
        CHECK.refusedAct("25: twice", Probe.STATE, () -> p.vault.off());
        CHECK.due("26: start()", p.vault.start(), 0);
        CHECK.due("25: what was not kept is gone", p.vault.last(0), 1);
    }

    private static void start() {
        Probe p = new Probe();
        p.series("a=b");
        p.vault.append(0, 1, 10);
        p.vault.append(0, 2, 20);
        p.vault.delete(0, 1, 1);
        p.vault.sync();
        p.vault.append(0, 3, 30);
        p.series("a=c");
        p.ask("sum({})", 0, 9, 1);
        p.vault.end(0);
        Tape.put(p.vault, "xy");
        p.vault.off();
        CHECK.due("26: the table stays", p.table(1, 1), " 50");
        CHECK.due("26: start()", p.vault.start(), 4);
        CHECK.due("26: counts", p.counts(), "1 1 0 0 54 5 4 4 1");
        CHECK.due("26: last", p.vault.last(0), 2);
        CHECK.due("26: the table stays", p.table(1, 1), " 50");
        CHECK.due("26: the tape stays", p.tapeLength(), 2);
        CHECK.due("26: nothing is written", p.vault.written(), 1);
        CHECK.due("26: what is seen", p.asked("sum({})", 0, 9, 1), " 20");
        CHECK.due("26: the number is free again", p.series("z=z"), 1);
        CHECK.due("26: text", p.textOf(1), "z=z");
        CHECK.refused("26: it is on", Probe.STATE, () -> p.vault.start());
    }

    private static void startAgainAndAgain() {
        Probe p = packed(new long[] {1, 2});
        p.vault.append(0, 3, 3);
        p.vault.delete(0, 2, 2);
        p.vault.sync();
        for (int i = 0; i < 3; i++) {
            p.vault.off();
            CHECK.due("26: start()", p.vault.start(), 2);
            CHECK.due("26: counts", p.counts(), "2 1 1 1 52 2 2 2 2");
        }
        p.vault.append(0, 4, 4);
        p.vault.off();
        CHECK.due("26: start()", p.vault.start(), 2);
        CHECK.due("26: last", p.vault.last(0), 3);
        p.vault.append(0, 4, 4);
        p.vault.flush();
        p.vault.off();
        CHECK.due("26: behind a flush", p.vault.start(), 0);
        CHECK.due("26: counts", p.counts(), "2 0 2 1 51 0 0 0 3");
        CHECK.due("26: last", p.vault.last(0), 4);
    }

    private static void startBehindHorizon() {
        Probe p = packed(new long[] {1, 2});
        p.vault.append(0, 5, 5);
        p.vault.append(1, 8, 8);
        p.vault.append(0, 9, 9);
        p.vault.delete(0, 9, 9);
        CHECK.due("26: retain", p.vault.retain(6), 3);
        CHECK.due("26: counts", p.counts(), "2 1 0 0 53 4 4 4 1");
        p.vault.off();
        CHECK.due("26: all of them", p.vault.start(), 4);
        CHECK.due("26: counts", p.counts(), "2 1 0 0 53 4 4 4 1");
        CHECK.due("26: last times are raised", p.vault.last(0), 9);
    }
}
