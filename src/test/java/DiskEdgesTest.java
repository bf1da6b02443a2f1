/** A test for each sentence on an edge of promises 12 to 14, 20, 21 and 23 to 26, and of the disk in part 2. */
public final class DiskEdgesTest {
    private static final long MAX_TIME = 1099511627775L;
    private static final String W24 = "abcdefghijklmnopqrstuvwx";
    private static final Check CHECK = new Check();

    private DiskEdgesTest() {
    }

    public static void main(String[] args) {
        flush();
        flushRefused();
        flushWrites();
        catalog();
        compact();
        compactRefused();
        compactWrites();
        retain();
        retainParcels();
        retainWrites();
        count();
        parcel();
        written();
        cut();
        off();
        start();
        startDoesAgain();
        CHECK.finish("DiskEdgesTest");
    }

    /** Series 0 and 1, and for each number a parcel with one point of series 0 at that time. */
    private static Probe packed(long... times) {
        Probe p = new Probe();
        p.series("a=b");
        p.series("a=c");
        for (long time : times) {
            p.vault.append(0, time, time);
            p.vault.flush();
        }
        return p;
    }

    /** A disk of 16 blocks, 8 of them for the journal, and parcels of one block that leave 1 free. */
    private static Probe oneFree() {
        Probe p = new Probe();
        p.vault.format(16, 8);
        p.series("a=b");
        for (int i = 0; i < 4; i++) {
            p.vault.append(0, i, i);
            p.vault.flush();
        }
        CHECK.due("free", p.vault.count(4), 1);
        return p;
    }

    private static void flush() {
        CHECK.sentence("12: 0, when the journal has no records", () -> {
            Probe p = new Probe();
            CHECK.due("a new one", p.vault.flush(), 0);
            CHECK.due("written", p.vault.written(), 0);
            p.series("a=b");
            CHECK.due("a series", p.vault.flush(), 2);
            CHECK.due("again", p.vault.flush(), 0);
            CHECK.due("written", p.vault.written(), 2);
            p.vault.append(0, 1, 1);
            p.vault.off();
            p.vault.start();
            p.vault.cut(0);
            CHECK.due("none was kept", p.vault.flush(), 0);
        });
        CHECK.sentence("12: (0, when the journal has no records) also with 32 parcels and no block free", () -> {
            Probe p = packed();
            for (int i = 0; i < 32; i++) {
                p.vault.append(0, i, 0);
                p.vault.flush();
            }
            CHECK.due("flush()", p.vault.flush(), 0);
        });
        CHECK.sentence("12: without points in the head there is no parcel", () -> {
            Probe p = packed(1);
            p.vault.append(0, 2, 2);
            p.vault.delete(0, 2, 2);
            CHECK.due("catalog and manifest", p.vault.flush(), 2);
            CHECK.due("counts", p.counts(), "2 0 1 0 52 0 0 0 1");
            p.vault.append(0, 5, 5);
            p.vault.retain(6);
            CHECK.due("below the horizon", p.vault.flush(), 2);
            CHECK.due("counts", p.counts(), "2 0 0 0 53 0 0 0 0");
            CHECK.due("last", p.vault.last(0), 5);
        });
        CHECK.sentence("12: records that are not on the disk yet are not written for it", () -> {
            Probe p = packed(1);
            p.vault.append(0, 2, 2);
            CHECK.due("parcel, catalog, manifest", p.vault.flush(), 3);
            CHECK.due("written", p.vault.written(), 6);
        });
        CHECK.sentence("Terms 2: with this last one all that came before is kept, the journal and the head are empty", () -> {
            Probe p = packed();
            p.vault.append(0, 2, 2);
            p.vault.append(1, 7, 2);
            p.vault.delete(1, 7, 7);
            p.vault.flush();
            CHECK.due("counts", p.counts(), "2 0 1 0 52 0 0 0 1");
            p.vault.off();
            CHECK.due("start()", p.vault.start(), 0);
            CHECK.due("counts", p.counts(), "2 0 1 0 52 0 0 0 1");
            CHECK.due("last", p.vault.last(1), 7);
            CHECK.due("text", p.textOf(1), "a=c");
        });
        CHECK.sentence("Terms 2: the journal is empty: all its blocks take records again", () -> {
            Probe p = new Probe();
            p.vault.format(16, 2);
            p.series("a=b");
            p.bulkOf(0, 0, 200);
            p.vault.flush();
            CHECK.due("252 points", p.bulkOf(0, 300, 253), 252);
        });
        CHECK.sentence("Terms 2: parcels stand in a row, the newest one last", () -> {
            Probe p = packed(1, 2);
            p.bulk(0, 3, 3, 4, 4);
            p.vault.flush();
            CHECK.due("points", p.vault.parcel(2, 0), 2);
            CHECK.due("points", p.vault.parcel(0, 0), 1);
        });
    }

    private static void flushRefused() {
        CHECK.sentence("12: there would be 33 parcels", () -> {
            Probe p = packed();
            for (int i = 0; i < 32; i++) {
                p.vault.append(0, i, 0);
                CHECK.due("flush()", p.vault.flush(), 3);
            }
            p.vault.append(0, 50, 0);
            p.vault.cut(0);
            String before = p.counts();
            CHECK.refused("flush()", Probe.UNSUPPORTED, () -> p.vault.flush());
            CHECK.due("counts", p.counts(), before);
            CHECK.due("written", p.vault.written(), 96);
            p.vault.cut(SeriesVault.NONE);
            p.vault.compact(0);
            CHECK.due("with 31 it goes", p.vault.flush(), 3);
            CHECK.due("parcels", p.vault.count(2), 32);
        });
        CHECK.sentence("12: there would be 33 parcels (not without points in the head)", () -> {
            Probe p = packed();
            for (int i = 0; i < 32; i++) {
                p.vault.append(0, i, 0);
                p.vault.flush();
            }
            p.series("a=d");
            CHECK.due("flush()", p.vault.flush(), 2);
            CHECK.due("parcels", p.vault.count(2), 32);
        });
        CHECK.sentence("12: fewer blocks are free than the parcel and the catalog have", () -> {
            Probe p = oneFree();
            p.vault.append(0, 9, 9);
            p.vault.cut(0);
            CHECK.refused("2 are needed", Probe.UNSUPPORTED, () -> p.vault.flush());
            CHECK.due("counts", p.counts(), "1 1 4 0 1 1 1 0 5");
            CHECK.due("written", p.vault.written(), 12);
            p.vault.cut(SeriesVault.NONE);
            p.vault.compact(0);
            CHECK.due("free", p.vault.count(4), 2);
            CHECK.due("just as many", p.vault.flush(), 3);
            CHECK.due("free", p.vault.count(4), 1);
        });
        CHECK.sentence("12: (those of the catalog before are not free yet; without points in the head there is no parcel)", () -> {
            Probe p = oneFree();
            p.vault.append(0, 9, 9);
            p.vault.delete(0, 9, 9);
            CHECK.due("1 for the catalog", p.vault.flush(), 2);
            CHECK.due("the one before is free then", p.vault.count(4), 1);
        });
        CHECK.sentence("12: fewer blocks are free than .. the catalog has", () -> {
            Probe p = oneFree();
            for (int i = 0; i < 63; i++) {
                p.series("n=" + i);
            }
            CHECK.refused("2 are needed for 128 units", Probe.UNSUPPORTED, () -> p.vault.flush());
            CHECK.due("written", p.vault.written(), 12);
            CHECK.due("kept", p.vault.count(7), 0);
            p.vault.retain(1);
            CHECK.due("with 2 it goes", p.vault.flush(), 3);
            CHECK.due("free", p.vault.count(4), 1);
        });
    }

    private static void flushWrites() {
        CHECK.sentence("Terms 2: first the blocks of the parcel, then those of the catalog, then one for the manifest (cut at each)", () -> {
            for (int n = 0; n < 3; n++) {
                Probe p = packed(1);
                p.vault.append(0, 2, 2);
                p.vault.sync();
                p.vault.append(0, 3, 3);
                p.vault.cut(n);
                CHECK.refused("flush()", Probe.STATE, () -> p.vault.flush());
                CHECK.refused("the power is off", Probe.STATE, () -> p.vault.count(0));
                CHECK.due("written", p.vault.written(), 4 + n);
                CHECK.due("start()", p.vault.start(), 1);
                CHECK.due("counts", p.counts(), "2 1 1 0 52 1 1 1 2");
                CHECK.due("no cut is set then", p.vault.flush(), 3);
            }
            Probe p = packed(1);
            p.vault.append(0, 2, 2);
            p.vault.cut(3);
            CHECK.due("flush()", p.vault.flush(), 3);
            p.vault.append(0, 3, 3);
            CHECK.refused("the cut stays set", Probe.STATE, () -> p.vault.sync());
            p.vault.start();
            CHECK.due("counts", p.counts(), "2 0 2 0 51 0 0 0 2");
        });
        CHECK.sentence("Terms 2: the blocks of the catalog before are free (not sooner)", () -> {
            Probe p = packed(1);
            p.vault.append(0, 2, 2);
            CHECK.due("free", p.vault.count(4), 52);
            p.vault.cut(2);
            CHECK.refused("flush()", Probe.STATE, () -> p.vault.flush());
            p.vault.start();
            CHECK.due("what was written without its manifest is in use by nothing", p.vault.count(4), 52);
            p.vault.append(0, 2, 2);
            p.vault.flush();
            CHECK.due("one parcel more, one catalog", p.vault.count(4), 51);
        });
    }

    private static void catalog() {
        CHECK.sentence("Terms 2: a catalog: blocks of 126 units", () -> {
            Probe p = new Probe();
            for (int i = 0; i < 63; i++) {
                p.series("n=" + i);
            }
            CHECK.due("126 units", p.vault.flush(), 2);
            CHECK.due("free", p.vault.count(4), 53);
            p.series("n=x");
            CHECK.due("128 units", p.vault.flush(), 3);
            CHECK.due("free", p.vault.count(4), 52);
        });
        CHECK.sentence("Terms 2: .. and filled likewise (a record that has not room enough begins the next block)", () -> {
            Probe p = new Probe();
            for (int i = 0; i < 62; i++) {
                p.series("n=" + i);
            }
            p.series(W24 + "=" + W24);
            CHECK.due("124 units and 3", p.vault.flush(), 3);
            Probe q = new Probe();
            for (int i = 0; i < 42; i++) {
                q.series("n=" + (char) ('A' + i) + W24.substring(1) + ",m=" + W24);
            }
            CHECK.due("units", q.vault.count(5), 42 * 3);
            CHECK.due("126 units", q.vault.flush(), 2);
        });
        CHECK.sentence("Terms 2: .. and filled likewise (what a block has left over stays so)", () -> {
            Probe p = new Probe();
            for (int i = 0; i < 62; i++) {
                p.series("n=" + (100000000000000000L + i));
            }
            p.series("n=" + W24 + ",m=56789012345");
            for (int i = 0; i < 61; i++) {
                p.series("m=" + (100000000000000000L + i));
            }
            CHECK.due("124 units, and 3 and 122", p.vault.flush(), 3);
            p.series("q=q");
            CHECK.due("2 units more", p.vault.flush(), 4);
        });
        CHECK.sentence("Terms 2: all series are written in a catalog, one record for each (also when no new one came)", () -> {
            Probe p = packed(1);
            p.vault.append(0, 2, 2);
            p.vault.flush();
            p.vault.off();
            p.vault.start();
            CHECK.due("text", p.textOf(0) + " " + p.textOf(1), "a=b a=c");
            CHECK.due("last", p.vault.last(0), 2);
            CHECK.due("last", p.vault.last(1), -1);
        });
    }

    private static void compact() {
        CHECK.sentence("13: parcels k and k + 1 are put together: how many blocks were written, in all", () -> {
            Probe p = packed(1, 2, 3);
            CHECK.due("parcel and manifest", p.vault.compact(1), 2);
            CHECK.due("points", p.vault.parcel(0, 0), 1);
            CHECK.due("points", p.vault.parcel(1, 0), 2);
            p.vault.append(0, 4, 4);
            CHECK.due("what the sync writes counts", p.vault.compact(0), 3);
            CHECK.due("kept", p.vault.count(7), 1);
            CHECK.due("points", p.vault.parcel(0, 0), 3);
            CHECK.due("counts", p.counts(), "2 1 1 0 52 1 1 1 4");
        });
        CHECK.sentence("13: there are none such", () -> {
            Probe p = new Probe();
            CHECK.refused("no parcels", Probe.INDEX, () -> p.vault.compact(0));
            Probe q = packed(1);
            CHECK.refused("one parcel", Probe.INDEX, () -> q.vault.compact(0));
            Probe r = packed(1, 2, 3);
            r.vault.append(0, 9, 9);
            for (int k : new int[] {2, 3, -1, Integer.MIN_VALUE, Integer.MAX_VALUE}) {
                CHECK.refused("compact(" + k + ")", Probe.INDEX, () -> r.vault.compact(k));
            }
            CHECK.due("counts", r.counts(), "2 1 3 0 50 1 1 0 4");
            CHECK.due("the last two", r.vault.compact(1), 3);
        });
        CHECK.sentence("Terms 2: their points that are seen become one parcel in their place, or none, if there are none", () -> {
            Probe p = packed(1, 2, 3, 4);
            p.vault.delete(0, 2, 3);
            CHECK.due("sync and manifest", p.vault.compact(1), 2);
            CHECK.due("counts", p.counts(), "2 0 2 0 51 1 1 1 2");
            CHECK.due("what stands behind has moved", p.asked("sum({})", 0, 1, 6), " . 1 . . 4 .");
            p.vault.delete(0, 0, 9);
            p.vault.sync();
            CHECK.due("manifest", p.vault.compact(0), 1);
            CHECK.due("counts", p.counts(), "2 0 0 0 53 2 2 2 0");
            p.vault.off();
            p.vault.start();
            CHECK.due("counts", p.counts(), "2 0 0 0 53 2 2 2 0");
        });
        CHECK.sentence("Terms 2: their points that are seen (not those below the horizon)", () -> {
            Probe p = packed();
            p.bulk(0, 1, 1, 8, 8);
            p.vault.flush();
            p.bulk(0, 9, 9);
            p.vault.flush();
            p.vault.retain(8);
            CHECK.due("before", p.vault.parcel(0, 0), 2);
            p.vault.compact(0);
            CHECK.due("behind it", p.vault.parcel(0, 0), 2);
            CHECK.due("seen", p.vault.parcel(0, 1), 2);
        });
        CHECK.sentence("Terms 2: (putting together and moving the horizon leave the records)", () -> {
            Probe p = packed(1, 2);
            p.vault.append(0, 3, 3);
            p.vault.compact(0);
            p.vault.retain(1);
            CHECK.due("counts", p.counts(), "2 1 1 0 52 1 1 1 3");
            p.vault.off();
            CHECK.due("start()", p.vault.start(), 1);
            CHECK.due("counts", p.counts(), "2 1 1 0 52 1 1 1 3");
        });
    }

    /** One parcel of points that have 111 bits each, or more. */
    private static void addDearParcel(Probe p, long from, int n) {
        long[] numbers = new long[2 * n];
        for (int i = 0; i < n; i++) {
            numbers[2 * i] = from + i * 5000L + (i % 2 == 0 ? 0 : 4900);
            numbers[2 * i + 1] = i % 2 == 0 ? 0 : -1L;
        }
        CHECK.due("points", p.bulk(0, numbers), n);
        p.vault.flush();
    }

    private static void compactRefused() {
        CHECK.sentence("13: fewer blocks are free than the parcel has (asked before it is synced)", () -> {
            Probe p = new Probe();
            p.vault.format(16, 8);
            p.series("a=b");
            addDearParcel(p, 0, 150);
            addDearParcel(p, 10000000L, 150);
            p.vault.append(0, 20000000L, 0);
            p.vault.flush();
            p.vault.append(0, 30000000L, 0);
            p.vault.flush();
            p.vault.append(0, 40000000L, 0);
            p.vault.cut(0);
            String before = p.counts() + " " + p.vault.written();
            CHECK.due("before", before, "1 1 4 0 1 1 1 0 303 14");
            CHECK.refused("2 blocks with 1 free", Probe.UNSUPPORTED, () -> p.vault.compact(0));
            CHECK.due("nothing is changed", p.counts() + " " + p.vault.written(), before);
            p.vault.cut(SeriesVault.NONE);
            CHECK.due("1 block with 1 free", p.vault.compact(2), 3);
            CHECK.due("2 blocks with 2 free", p.vault.compact(0), 3);
            CHECK.due("counts", p.counts(), "1 1 2 0 2 1 1 1 303");
            p.vault.delete(0, 0, 30000000L);
            CHECK.due("none is needed for none", p.vault.compact(0), 2);
        });
    }

    private static void compactWrites() {
        CHECK.sentence("Terms 2: first it is synced; its blocks are written, then one for the manifest (cut at each)", () -> {
            for (int n = 0; n < 3; n++) {
                Probe p = packed(1, 2);
                p.vault.append(0, 3, 3);
                p.vault.cut(n);
                CHECK.refused("compact(0)", Probe.STATE, () -> p.vault.compact(0));
                CHECK.due("written", p.vault.written(), 6 + n);
                CHECK.due("start()", p.vault.start(), n == 0 ? 0 : 1);
                CHECK.due("counts", p.counts(), n == 0 ? "2 0 2 0 51 0 0 0 2" : "2 1 2 0 51 1 1 1 3");
            }
            Probe p = packed(1, 2);
            p.vault.append(0, 3, 3);
            p.vault.cut(3);
            CHECK.due("compact(0)", p.vault.compact(0), 3);
            CHECK.due("counts", p.counts(), "2 1 1 0 52 1 1 1 3");
        });
        CHECK.sentence("Terms 2: with that the blocks of the two are free (not sooner)", () -> {
            Probe p = packed(1, 2);
            CHECK.due("before", p.vault.count(4), 51);
            p.vault.cut(1);
            CHECK.refused("compact(0)", Probe.STATE, () -> p.vault.compact(0));
            p.vault.start();
            CHECK.due("without the manifest", p.vault.count(4), 51);
            p.vault.compact(0);
            CHECK.due("with it", p.vault.count(4), 52);
        });
    }

    private static void retain() {
        CHECK.sentence("14: the horizon moves: how many points are seen no more", () -> {
            Probe p = packed(1, 2, 3);
            p.bulk(0, 4, 4, 5, 5);
            p.vault.delete(0, 2, 2);
            CHECK.due("1 and 3; 2 was deleted", p.vault.retain(4), 2);
            CHECK.due("4, of the head", p.vault.retain(5), 1);
            CHECK.due("none", p.vault.retain(5), 0);
            CHECK.due("5", p.vault.retain(MAX_TIME), 1);
        });
        CHECK.sentence("14: (with the horizon that there is nothing is done)", () -> {
            Probe p = packed(1);
            p.vault.append(0, 9, 9);
            p.vault.cut(0);
            CHECK.due("0 at first", p.vault.retain(0), 0);
            CHECK.due("it is not synced", p.vault.count(7), 0);
            p.vault.cut(SeriesVault.NONE);
            p.vault.retain(5);
            p.vault.append(0, 10, 10);
            int written = p.vault.written();
            CHECK.due("5", p.vault.retain(5), 0);
            CHECK.due("written", p.vault.written(), written);
            CHECK.due("kept", p.vault.count(7), 1);
        });
        CHECK.sentence("14: it is no time", () -> {
            Probe p = packed(1);
            for (long time : new long[] {-1, MAX_TIME + 1, Long.MIN_VALUE, Long.MAX_VALUE}) {
                CHECK.refused("retain(" + time + ")", Probe.ARGUMENT, () -> p.vault.retain(time));
            }
            CHECK.due("counts", p.counts(), "2 0 1 0 52 0 0 0 1");
            CHECK.due("the latest", p.vault.retain(MAX_TIME), 1);
        });
        CHECK.sentence("14: or below the horizon", () -> {
            Probe p = packed(10);
            p.vault.retain(5);
            int written = p.vault.written();
            CHECK.refused("one less", Probe.ARGUMENT, () -> p.vault.retain(4));
            CHECK.refused("0", Probe.ARGUMENT, () -> p.vault.retain(0));
            CHECK.due("written", p.vault.written(), written);
            p.vault.off();
            p.vault.start();
            CHECK.refused("when the power came", Probe.ARGUMENT, () -> p.vault.retain(4));
            CHECK.due("one more", p.vault.retain(6), 0);
        });
    }

    private static void retainParcels() {
        CHECK.sentence("Terms 2: parcels in which all points are below it are gone, their blocks free", () -> {
            Probe p = packed(3, 5, 7);
            p.vault.retain(3);
            CHECK.due("one at it stays", p.vault.count(2), 3);
            p.vault.retain(4);
            CHECK.due("one below it is gone", p.counts(), "2 0 2 0 51 0 0 0 2");
            p.vault.retain(8);
            CHECK.due("all are gone", p.counts(), "2 0 0 0 53 0 0 0 0");
        });
        CHECK.sentence("Terms 2: (also those that are not seen)", () -> {
            Probe p = packed();
            p.bulk(0, 3, 3, 9, 9);
            p.vault.flush();
            p.vault.delete(0, 9, 9);
            CHECK.due("retain(4)", p.vault.retain(4), 1);
            CHECK.due("9 is not seen, but not below it", p.counts(), "2 0 1 1 52 1 1 1 0");
            CHECK.due("parcel", p.vault.parcel(0, 0) + " " + p.vault.parcel(0, 1), "2 0");
            CHECK.due("retain(9)", p.vault.retain(9), 0);
            CHECK.due("at it", p.vault.count(2), 1);
            CHECK.due("retain(10)", p.vault.retain(10), 0);
            CHECK.due("gone, with its scar", p.counts(), "2 0 0 0 53 1 1 1 0");
        });
        CHECK.sentence("Terms 2: parcels in which all points are below it (of all its series)", () -> {
            Probe p = packed();
            p.vault.append(1, 4, 4);
            p.vault.append(0, 9, 9);
            p.vault.flush();
            p.vault.append(0, 10, 9);
            p.vault.append(1, 5, 5);
            p.vault.flush();
            p.vault.retain(9);
            CHECK.due("both stay", p.vault.count(2), 2);
            p.vault.retain(10);
            CHECK.due("the second one stays", p.vault.parcel(0, 0) + " of " + p.vault.count(2), "2 of 1");
        });
    }

    private static void retainWrites() {
        CHECK.sentence("Terms 2: first it is synced, then one block is written, for the manifest", () -> {
            Probe p = packed(1);
            CHECK.due("retain(1)", p.vault.retain(1), 0);
            CHECK.due("one block", p.vault.written(), 4);
            p.vault.append(0, 5, 5);
            p.vault.retain(2);
            CHECK.due("two blocks", p.vault.written(), 6);
            CHECK.due("kept", p.vault.count(7), 1);
            p.vault.off();
            CHECK.due("start()", p.vault.start(), 1);
            CHECK.refused("the horizon is 2", Probe.ARGUMENT, () -> p.vault.retain(1));
            CHECK.due("counts", p.counts(), "2 1 0 0 53 1 1 1 1");
        });
        CHECK.sentence("Terms 2: first it is synced, then one block is written (cut at each)", () -> {
            for (int n = 0; n < 2; n++) {
                Probe p = packed(1, 2);
                p.vault.append(0, 3, 3);
                p.vault.delete(0, 1, 1);
                p.vault.cut(n);
                CHECK.refused("retain(3)", Probe.STATE, () -> p.vault.retain(3));
                CHECK.due("written", p.vault.written(), 6 + n);
                CHECK.due("start()", p.vault.start(), n == 0 ? 0 : 2);
                CHECK.due("counts", p.counts(), n == 0 ? "2 0 2 0 51 0 0 0 2" : "2 1 2 1 51 2 2 2 2");
                CHECK.due("the horizon is 0", p.vault.retain(0), 0);
            }
            Probe p = packed(1, 2);
            p.vault.append(0, 3, 3);
            p.vault.cut(2);
            CHECK.due("retain(3)", p.vault.retain(3), 2);
        });
    }

    private static void count() {
        CHECK.sentence("20: what is none of these", () -> {
            Probe p = packed(1);
            for (int what : new int[] {-1, 9, Integer.MIN_VALUE, Integer.MAX_VALUE}) {
                CHECK.refused("count(" + what + ")", Probe.ARGUMENT, () -> p.vault.count(what));
            }
            CHECK.due("0 to 8", p.counts(), "2 0 1 0 52 0 0 0 1");
        });
        CHECK.sentence("20: what = 0 series .. 8 points seen, in all", () -> {
            Probe p = packed(1, 2, 3, 4);
            p.vault.delete(0, 1, 2);
            p.vault.delete(0, 3, 3);
            p.vault.sync();
            p.bulk(1, 5, 5, 6, 6, 7, 7, 8, 8, 9, 9);
            p.series(W24 + "=" + W24);
            CHECK.due("all differ", p.counts(), "3 5 4 2 49 10 8 2 6");
        });
        CHECK.sentence("20: 8 points seen, in all (of any time)", () -> {
            Probe p = packed(0, MAX_TIME);
            p.vault.append(1, 0, 0);
            p.vault.append(1, MAX_TIME, 0);
            CHECK.due("the first and the latest time", p.vault.count(8), 4);
            CHECK.due("of a parcel", p.vault.parcel(1, 1), 1);
            CHECK.due("retain(latest)", p.vault.retain(MAX_TIME), 2);
            CHECK.due("seen", p.vault.count(8), 2);
        });
        CHECK.sentence("20: 5 units of records in the journal (what blocks have left over is none)", () -> {
            Probe p = packed();
            p.bulkOf(0, 0, 121);
            p.series("n=n");
            CHECK.due("125 and 2", p.vault.count(5), 127);
            p.vault.sync();
            p.vault.off();
            p.vault.start();
            CHECK.due("when the power came", p.vault.count(5), 127);
        });
        CHECK.sentence("20: 4 free blocks: of the others those that are in use by nothing", () -> {
            Probe p = new Probe();
            p.vault.format(20, 5);
            CHECK.due("two are for the manifest", p.vault.count(4), 13);
            p.series("a=b");
            p.vault.sync();
            CHECK.due("those of the journal are not of them", p.vault.count(4), 13);
            p.vault.flush();
            CHECK.due("a catalog", p.vault.count(4), 12);
            p.vault.append(0, 1, 1);
            p.vault.flush();
            CHECK.due("a parcel", p.vault.count(4), 11);
        });
    }

    private static void parcel() {
        CHECK.sentence("21: what is none of these", () -> {
            Probe p = packed(1);
            for (int what : new int[] {-1, 5, Integer.MIN_VALUE, Integer.MAX_VALUE}) {
                CHECK.refused("parcel(0, " + what + ")", Probe.ARGUMENT, () -> p.vault.parcel(0, what));
            }
            CHECK.due("0 to 4", p.parcel(0), "1 1 1 168 1");
        });
        CHECK.sentence("21: there is no such parcel", () -> {
            Probe p = new Probe();
            CHECK.refused("of none", Probe.INDEX, () -> p.vault.parcel(0, 0));
            Probe q = packed(1);
            for (int k : new int[] {1, -1, 32, Integer.MIN_VALUE, Integer.MAX_VALUE}) {
                CHECK.refused("parcel(" + k + ", 0)", Probe.INDEX, () -> q.vault.parcel(k, 0));
            }
            q.vault.retain(2);
            CHECK.refused("one that is gone", Probe.INDEX, () -> q.vault.parcel(0, 0));
        });
        CHECK.sentence("21: 2 its chunks (of points seen or not)", () -> {
            Probe p = packed();
            p.vault.append(0, 1, 1);
            p.vault.append(1, 2, 2);
            p.vault.flush();
            p.vault.delete(0, 1, 1);
            CHECK.due("parcel", p.parcel(0), "2 1 2 336 1");
            p.vault.delete(1, 2, 2);
            CHECK.due("parcel", p.parcel(0), "2 0 2 336 1");
        });
        CHECK.sentence("Terms 2: a parcel has a chunk for each series of which it has points", () -> {
            Probe p = packed();
            p.series("a=d");
            p.bulk(2, 1, 1);
            p.bulk(0, 1, 1, 2, 1);
            p.bulk(2, 2, 1);
            p.vault.flush();
            CHECK.due("two of three series", p.parcel(0), "4 4 2 " + (2 * 168 + 2 * 10) + " 1");
        });
    }

    private static void written() {
        CHECK.sentence("23: how many blocks were written since the format (which writes none), with those of other sessions", () -> {
            Probe p = packed(1);
            CHECK.due("3", p.vault.written(), 3);
            p.vault.append(0, 2, 2);
            p.vault.cut(1);
            CHECK.refused("flush()", Probe.STATE, () -> p.vault.flush());
            CHECK.due("those before the power went off", p.vault.written(), 4);
            p.vault.start();
            CHECK.due("start() writes none", p.vault.written(), 4);
            p.series("n=n");
            p.vault.sync();
            CHECK.due("5", p.vault.written(), 5);
            p.vault.format(64, 8);
            CHECK.due("the format writes none", p.vault.written(), 0);
        });
    }

    private static void cut() {
        CHECK.sentence("24: sets a cut after so many blocks (0: the next one is not written)", () -> {
            for (int n = 0; n < 4; n++) {
                Probe p = packed(1);
                p.vault.cut(n);
                for (int i = 0; i < n; i++) {
                    p.vault.append(0, 10 + i, 0);
                    CHECK.due("sync()", p.vault.sync(), true);
                }
                p.vault.append(0, 20, 0);
                CHECK.refused("one more", Probe.STATE, () -> p.vault.sync());
                CHECK.due("written", p.vault.written(), 3 + n);
                CHECK.due("start()", p.vault.start(), n);
            }
        });
        CHECK.sentence("24: in place of one that is set", () -> {
            Probe p = packed(1);
            p.vault.cut(0);
            p.vault.cut(1);
            p.vault.append(0, 2, 2);
            CHECK.due("sync()", p.vault.sync(), true);
            p.vault.cut(1);
            p.vault.append(0, 3, 3);
            CHECK.due("it counts from then on", p.vault.sync(), true);
            p.vault.cut(5);
            p.vault.cut(0);
            p.vault.append(0, 4, 4);
            CHECK.refused("sync()", Probe.STATE, () -> p.vault.sync());
        });
        CHECK.sentence("24: none with NONE", () -> {
            Probe p = packed(1);
            p.vault.cut(0);
            p.vault.cut(SeriesVault.NONE);
            p.vault.append(0, 2, 2);
            CHECK.due("flush()", p.vault.flush(), 3);
        });
        CHECK.sentence("24: n is below that", () -> {
            Probe p = packed(1);
            p.vault.cut(1);
            CHECK.refusedAct("cut(-2)", Probe.ARGUMENT, () -> p.vault.cut(-2));
            CHECK.refusedAct("cut(least)", Probe.ARGUMENT, () -> p.vault.cut(Integer.MIN_VALUE));
            p.vault.append(0, 2, 2);
            CHECK.due("the one that is set stays", p.vault.sync(), true);
            p.vault.append(0, 3, 3);
            CHECK.refused("the one that is set stays", Probe.STATE, () -> p.vault.sync());
        });
        CHECK.sentence("24: the greatest number", () -> {
            Probe p = packed(1);
            p.vault.cut(Integer.MAX_VALUE);
            p.vault.append(0, 2, 2);
            CHECK.due("flush()", p.vault.flush(), 3);
        });
        CHECK.sentence("Terms 2: when .. one more is to be, it is not, and the power goes off; no cut is set then", () -> {
            Probe p = packed(1);
            p.vault.append(0, 2, 2);
            p.vault.cut(0);
            CHECK.due("none is to be written", p.vault.delete(0, 5, 9), 0);
            CHECK.due("the power is on", p.vault.count(2), 1);
            CHECK.refused("sync()", Probe.STATE, () -> p.vault.sync());
            p.vault.start();
            p.vault.append(0, 2, 2);
            CHECK.due("no cut is set", p.vault.sync(), true);
        });
        CHECK.sentence("Terms 2: a cut that is set stays (when the power comes on)", () -> {
            Probe p = packed(1);
            p.vault.cut(1);
            p.vault.off();
            p.vault.start();
            p.vault.append(0, 2, 2);
            CHECK.due("sync()", p.vault.sync(), true);
            p.vault.off();
            p.vault.start();
            p.vault.append(0, 3, 3);
            CHECK.refused("sync()", Probe.STATE, () -> p.vault.sync());
            CHECK.due("start()", p.vault.start(), 1);
        });
    }

    private static void off() {
        CHECK.sentence("25: the power goes off", () -> {
            Probe p = packed(1);
            p.vault.append(0, 2, 2);
            p.vault.off();
            CHECK.refused("count(0)", Probe.STATE, () -> p.vault.count(0));
            CHECK.due("nothing is written", p.vault.written(), 3);
            CHECK.due("start()", p.vault.start(), 0);
            CHECK.due("counts", p.counts(), "2 0 1 0 52 0 0 0 1");
        });
        CHECK.sentence("25: IllegalStateException (it is off, by off() or by a cut)", () -> {
            Probe p = packed(1);
            p.vault.off();
            CHECK.refusedAct("off()", Probe.STATE, () -> p.vault.off());
            p.vault.start();
            p.vault.append(0, 2, 2);
            p.vault.cut(0);
            CHECK.refused("sync()", Probe.STATE, () -> p.vault.sync());
            CHECK.refusedAct("off()", Probe.STATE, () -> p.vault.off());
        });
    }

    private static void start() {
        CHECK.sentence("26: IllegalStateException: it is on", () -> {
            Probe p = packed(1);
            p.vault.append(0, 2, 2);
            String before = p.everything();
            CHECK.refused("start()", Probe.STATE, () -> p.vault.start());
            CHECK.due("nothing is changed", p.everything(), before);
        });
        CHECK.sentence("26: how many records (of any kind) were done again", () -> {
            Probe p = packed(1, 2);
            p.series("n=n");
            p.vault.append(2, 5, 5);
            p.vault.append(2, 6, 6);
            p.vault.delete(2, 5, 5);
            p.vault.delete(0, 1, 1);
            p.vault.sync();
            p.vault.append(2, 7, 7);
            p.vault.off();
            CHECK.due("5", p.vault.start(), 5);
            CHECK.due("counts", p.counts(), "3 1 2 1 51 6 5 5 2");
            CHECK.due("text", p.textOf(2), "n=n");
            p.vault.off();
            CHECK.due("again", p.vault.start(), 5);
            CHECK.due("counts", p.counts(), "3 1 2 1 51 6 5 5 2");
        });
        CHECK.sentence("26: none on a new disk", () -> {
            Probe p = new Probe();
            p.vault.off();
            CHECK.due("start()", p.vault.start(), 0);
            CHECK.due("counts", p.counts(), "0 0 0 0 54 0 0 0 0");
        });
        CHECK.sentence("Terms 2: nothing is written", () -> {
            Probe p = packed(1);
            p.vault.append(0, 2, 2);
            p.vault.sync();
            p.vault.cut(0);
            p.vault.off();
            CHECK.due("start()", p.vault.start(), 1);
            CHECK.due("written", p.vault.written(), 4);
        });
        CHECK.sentence("Terms 2: what was not kept is gone as if it had never come: series and last times, too", () -> {
            Probe p = packed(1);
            p.vault.append(0, 8, 8);
            p.series("n=n");
            p.vault.append(2, 9, 9);
            p.vault.off();
            CHECK.due("start()", p.vault.start(), 0);
            CHECK.due("counts", p.counts(), "2 0 1 0 52 0 0 0 1");
            CHECK.due("last", p.vault.last(0), 1);
            CHECK.due("its number is that of another one", p.series("m=m"), 2);
            CHECK.due("text", p.textOf(2), "m=m");
            CHECK.due("last", p.vault.last(2), -1);
            CHECK.due("a new one again", p.series("n=n"), 3);
            CHECK.due("the time is free again", p.vault.append(0, 2, 2), 1);
        });
        CHECK.sentence("Terms 2: the table, the tape, what fault() tells stay", () -> {
            Probe p = packed(1);
            p.ask("sum by (a)({})", 0, 5, 2);
            p.series("q=");
            Tape.put(p.vault, "x=y");
            p.vault.off();
            CHECK.due("table", p.table(1, 2), "b| 1 .");
            CHECK.due("fault", p.fault(), "7 at 2");
            p.vault.start();
            CHECK.due("table", p.table(1, 2), "b| 1 .");
            CHECK.due("fault", p.fault(), "7 at 2");
            CHECK.due("tape", p.vault.series(), 2);
            CHECK.due("text", p.textOf(2), "x=y");
        });
    }

    private static void startDoesAgain() {
        CHECK.sentence("Terms 2: points below the horizon come, too: they raise last times alone", () -> {
            Probe p = packed();
            p.bulk(0, 3, 3, 4, 4, 9, 9);
            p.bulk(1, 5, 5);
            p.vault.retain(6);
            p.vault.off();
            CHECK.due("all of them", p.vault.start(), 6);
            CHECK.due("counts", p.counts(), "2 1 0 0 54 8 6 6 1");
            CHECK.due("last", p.vault.last(1), 5);
            CHECK.due("last", p.vault.last(0), 9);
            p.vault.flush();
            CHECK.due("points", p.vault.parcel(0, 0), 1);
        });
        CHECK.sentence("Terms 2: the latest manifest that was written counts, with its parcels, catalog, horizon and scars", () -> {
            Probe p = packed(1, 2, 3);
            p.vault.delete(0, 3, 3);
            p.vault.compact(0);
            p.vault.retain(2);
            p.vault.append(1, 8, 8);
            p.vault.off();
            CHECK.due("start()", p.vault.start(), 1);
            CHECK.due("counts", p.counts(), "2 0 2 1 51 1 1 1 1");
            CHECK.due("points", p.vault.parcel(0, 0), 2);
            CHECK.due("seen", p.vault.parcel(0, 1), 1);
            CHECK.refused("horizon", Probe.ARGUMENT, () -> p.vault.retain(1));
        });
        CHECK.sentence("Terms 2: the records that were kept since the latest flush are done again, in their order", () -> {
            Probe p = packed(1);
            p.vault.append(0, 2, 2);
            p.vault.delete(0, 1, 5);
            p.vault.append(0, 4, 4);
            p.vault.sync();
            p.vault.off();
            CHECK.due("start()", p.vault.start(), 3);
            CHECK.due("the point behind the delete is seen", p.asked("sum({})", 0, 1, 6), " . . . . 4 .");
            CHECK.due("counts", p.counts(), "2 1 1 1 52 3 3 3 1");
        });
        CHECK.sentence("Terms 2: a scar that is not in the manifest comes again with its delete", () -> {
            Probe p = packed(1, 2);
            p.vault.delete(0, 1, 1);
            p.vault.sync();
            p.vault.delete(0, 2, 2);
            p.vault.off();
            CHECK.due("start()", p.vault.start(), 1);
            CHECK.due("one of two", p.counts(), "2 0 2 1 51 1 1 1 1");
            CHECK.due("which one", p.vault.parcel(0, 1) + " " + p.vault.parcel(1, 1), "0 1");
        });
    }
}
