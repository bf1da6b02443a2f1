/** A test for each sentence of part 3 (chunks), and of what part 2 says of the bits and blocks of a parcel. */
public final class ChunkEdgesTest {
    private static final long MAX_TIME = 1099511627775L;
    private static final int BEGINNING = 64 + 40 + 64;
    private static final Check CHECK = new Check();

    private ChunkEdgesTest() {
    }

    public static void main(String[] args) {
        beginnings();
        turns();
        values();
        frames();
        framesAndChunks();
        blocks();
        CHECK.finish("ChunkEdgesTest");
    }

    /** Bits of a parcel with these points of one series, without those of its beginning. */
    private static int bits(long... numbers) {
        Probe p = new Probe();
        p.series("a=b");
        CHECK.due("points", p.bulk(0, numbers), numbers.length / 2);
        p.vault.flush();
        return p.vault.parcel(0, 3) - BEGINNING;
    }

    /** Bits of a point whose turn this is, its value being that of the point before. */
    private static int turnBits(long turn) {
        return bits(0, 5, 10000, 5, 20000 + turn, 5) - 45 - 1 - 1;
    }

    /** Bits of values that follow a 0 at steps of 1, without those of their times. */
    private static int valueBits(long... values) {
        long[] numbers = new long[2 * values.length + 2];
        for (int i = 0; i < values.length; i++) {
            numbers[2 * i + 2] = i + 1;
            numbers[2 * i + 3] = values[i];
        }
        return bits(numbers) - 9 - (values.length - 1);
    }

    private static void beginnings() {
        CHECK.sentence("Terms 3: the time of the first point has 40 bits, its value 64", () -> {
            CHECK.due("0, 0", bits(0, 0), 0);
            CHECK.due("the greatest", bits(MAX_TIME, Long.MIN_VALUE), 0);
        });
        CHECK.sentence("Terms 2: it has 64 bits for each chunk, and those of the chunk", () -> {
            Probe p = new Probe();
            p.series("a=b");
            p.series("a=c");
            p.series("a=d");
            p.bulk(0, 1, 1);
            p.bulk(1, 1, 1);
            p.bulk(2, 1, 1, 2, 1);
            p.vault.flush();
            CHECK.due("bits", p.vault.parcel(0, 3), 3 * BEGINNING + 9 + 1);
        });
    }

    private static void turns() {
        CHECK.sentence("Terms 3: the turn its step less the step before", () -> {
            CHECK.due("the same step", bits(0, 0, 7, 0, 14, 0, 21, 0), 9 + 1 + 1 + 1 + 1 + 1);
            CHECK.due("steps 7, 8, 7", bits(0, 0, 7, 0, 15, 0, 22, 0), 9 + 1 + 9 + 1 + 9 + 1);
        });
        CHECK.sentence("Terms 3: (its step, for the second point)", () -> {
            long[][] steps = {{1, 9}, {63, 9}, {64, 13}, {511, 13}, {512, 17}, {4095, 17}, {4096, 45}, {MAX_TIME - 3, 45}};
            for (long[] step : steps) {
                CHECK.due("step " + step[0], bits(3, 0, 3 + step[0], 0), step[1] + 1);
            }
        });
        CHECK.sentence("Terms 3: a turn of 0 has 1 bit", () -> CHECK.due("0", turnBits(0), 1));
        CHECK.sentence("Terms 3: else one of -64 .. 63 has 9", () -> {
            for (long turn : new long[] {-64, -63, -2, -1, 1, 2, 62, 63}) {
                CHECK.due("turn " + turn, turnBits(turn), 9);
            }
        });
        CHECK.sentence("Terms 3: of -512 .. 511 13", () -> {
            for (long turn : new long[] {-512, -511, -66, -65, 64, 65, 510, 511}) {
                CHECK.due("turn " + turn, turnBits(turn), 13);
            }
        });
        CHECK.sentence("Terms 3: of -4096 .. 4095 17", () -> {
            for (long turn : new long[] {-4096, -4095, -514, -513, 512, 513, 4094, 4095}) {
                CHECK.due("turn " + turn, turnBits(turn), 17);
            }
        });
        CHECK.sentence("Terms 3: any other one 45", () -> {
            for (long turn : new long[] {-4098, -4097, 4096, 4097, 1000000, MAX_TIME - 20000}) {
                CHECK.due("turn " + turn, turnBits(turn), 45);
            }
            CHECK.due("from the greatest step to 1", bits(0, 0, MAX_TIME - 1, 0, MAX_TIME, 0), 45 + 1 + 45 + 1);
        });
    }

    private static void values() {
        CHECK.sentence("Terms 3: for x = 0 it has 1 bit", () -> {
            CHECK.due("0, 0", valueBits(0), 1);
            CHECK.due("-1, -1", bits(0, -1, 1, -1), 9 + 1);
        });
        CHECK.sentence("Terms 3: x be the bits in which it differs from the one before", () -> {
            CHECK.due("from -1 to -2", bits(0, -1, 1, -2), 9 + 13 + 33);
            CHECK.due("from 3 << 40 to 1 << 40", bits(0, 3L << 40, 1, 1L << 40), 9 + 13 + 1);
        });
        CHECK.sentence("Terms 3: a the number of 0s above the highest 1 of x", () -> {
            CHECK.due("none", valueBits(1L << 63), 13 + 1);
            CHECK.due("none, to the lowest bit", valueBits(1L << 63 | 1), 13 + 64);
            CHECK.due("one", valueBits(1L << 62 | 1), 13 + 63);
            CHECK.due("30", valueBits(1L << 33 | 1), 13 + 34);
            CHECK.due("31", valueBits(1L << 32 | 1), 13 + 33);
        });
        CHECK.sentence("Terms 3: but at most 31", () -> {
            CHECK.due("32 above", valueBits(1L << 31 | 1), 13 + 33);
            CHECK.due("32 above, none below", valueBits(1L << 31), 13 + 2);
            CHECK.due("63 above", valueBits(1), 13 + 33);
        });
        CHECK.sentence("Terms 3: b that of those below the lowest 1", () -> {
            CHECK.due("none", valueBits(-1), 13 + 64);
            CHECK.due("one", valueBits(-2), 13 + 63);
            CHECK.due("62", valueBits(3L << 62), 13 + 2);
            CHECK.due("63", valueBits(Long.MIN_VALUE), 13 + 1);
        });
        CHECK.sentence("Terms 3: else 13 + n, n being 64 - a - b", () -> {
            CHECK.due("from bit 20 to bit 40", valueBits(1L << 40 | 1L << 20), 13 + 21);
            CHECK.due("from bit 10 to bit 20, a being 31", valueBits(1L << 20 | 1L << 10), 13 + 23);
        });
    }

    private static void frames() {
        long frame = 1L << 50 | 1L << 40;
        CHECK.sentence("Terms 3: if there is a frame (a', n'), and a is at least a'", () -> {
            CHECK.due("just so", valueBits(frame, frame ^ 1L << 50), 24 + 2 + 11);
            CHECK.due("more", valueBits(frame, frame ^ 1L << 49), 24 + 2 + 11);
            CHECK.due("one less", valueBits(frame, frame ^ 1L << 51), 24 + 13 + 1);
        });
        CHECK.sentence("Terms 3: and b at least 64 - a' - n'", () -> {
            CHECK.due("just so", valueBits(frame, frame ^ 1L << 40), 24 + 2 + 11);
            CHECK.due("more", valueBits(frame, frame ^ 1L << 41), 24 + 2 + 11);
            CHECK.due("one less", valueBits(frame, frame ^ 1L << 39), 24 + 14);
            CHECK.due("a just so, b one less", valueBits(frame, frame ^ (1L << 50 | 1L << 39)), 24 + 13 + 12);
            CHECK.due("a one less, b just so", valueBits(frame, frame ^ (1L << 51 | 1L << 40)), 24 + 13 + 12);
        });
        CHECK.sentence("Terms 3: a, at most 31, is at least a' (of 31)", () -> {
            CHECK.due("63 above, in a frame of 31 and 33", valueBits(1L << 32 | 1, 1L << 32), 13 + 33 + 2 + 33);
            CHECK.due("30 above", valueBits(1, 1 | 1L << 33), 13 + 33 + 13 + 1);
        });
        CHECK.sentence("Terms 3: it has 2 + n' (though it has more bits than a frame of its own)", () -> {
            CHECK.due("a frame of 64", valueBits(-1, -2), 77 + 66);
            CHECK.due("for each one", valueBits(-1, -2, -4), 77 + 66 + 66);
        });
        CHECK.sentence("Terms 3: the frame is (a, n) from there on", () -> {
            long other = frame ^ 1L << 60;
            CHECK.due("a new one takes its place", valueBits(frame, other, other ^ 1L << 45), 24 + 14 + 14);
            CHECK.due("one within it leaves it", valueBits(frame, frame ^ 1L << 45, frame), 24 + 13 + 13);
            CHECK.due("the same value leaves it", valueBits(frame, frame, frame ^ 1L << 45), 24 + 1 + 13);
        });
    }

    private static void framesAndChunks() {
        CHECK.sentence("Terms 3: there is none at the beginning of a chunk (of another series)", () -> {
            Probe p = new Probe();
            p.series("a=b");
            p.series("a=c");
            p.bulk(0, 0, 0, 1, -1);
            p.bulk(1, 0, 0, 1, 1L << 40);
            p.vault.flush();
            CHECK.due("bits", p.vault.parcel(0, 3), 2 * BEGINNING + 9 + 77 + 9 + 14);
        });
        CHECK.sentence("Terms 3: there is none at the beginning of a chunk (of the next parcel, with its turns)", () -> {
            Probe p = new Probe();
            p.series("a=b");
            p.bulk(0, 0, 0, 100, -1);
            p.vault.flush();
            p.bulk(0, 200, 0, 300, 1L << 40);
            p.vault.flush();
            CHECK.due("the first one", p.vault.parcel(0, 3), BEGINNING + 13 + 77);
            CHECK.due("the next one", p.vault.parcel(1, 3), BEGINNING + 13 + 14);
            p.vault.compact(0);
            CHECK.due("put together", p.vault.parcel(0, 3), BEGINNING + 13 + 77 + 1 + 66 + 1 + 66);
        });
        CHECK.sentence("Terms 3: the point before is one of the chunk (not one that is not in it)", () -> {
            Probe p = new Probe();
            p.series("a=b");
            p.bulk(0, 0, 0, 10, -1, 20, 0, 30, 0);
            p.vault.delete(0, 10, 10);
            p.vault.flush();
            CHECK.due("deleted in the head", p.vault.parcel(0, 3), BEGINNING + 9 + 1 + 9 + 1);
            p.bulk(0, 40, 0);
            p.vault.flush();
            p.vault.delete(0, 20, 20);
            CHECK.due("a delete leaves what is packed", p.vault.parcel(0, 3), BEGINNING + 9 + 1 + 9 + 1);
            p.vault.compact(0);
            CHECK.due("put together", p.vault.parcel(0, 3), BEGINNING + 9 + 1 + 9 + 1);
            CHECK.due("points", p.vault.parcel(0, 0), 3);
        });
    }

    /** 289 points of 32147 bits in all, then some that have 2 bits, the first of them perhaps 67 or more. */
    private static Probe nearlyFull(int more, boolean changes) {
        long[] numbers = new long[2 * (289 + more)];
        long time = 0;
        for (int i = 0; i < 289 + more; i++) {
            time += i < 289 ? i % 2 == 0 ? 100 : 9900 : 100;
            numbers[2 * i] = time;
            numbers[2 * i + 1] = i < 289 ? i % 2 == 0 ? 0 : -1 : changes ? -1 : 0;
        }
        Probe p = new Probe();
        p.series("a=b");
        CHECK.due("points", p.bulk(0, numbers), 289 + more);
        CHECK.due("blocks written", p.vault.flush(), 3 + (changes ? 0 : 1));
        return p;
    }

    private static void blocks() {
        CHECK.sentence("Terms 2: its blocks are the bits divided by 32256, rounded up (just one)", () -> {
            Probe p = nearlyFull(22, true);
            CHECK.due("parcel", p.parcel(0), "311 311 1 32256 1");
            CHECK.due("free", p.vault.count(4), 52);
        });
        CHECK.sentence("Terms 2: its blocks are the bits divided by 32256, rounded up (one bit more)", () -> {
            Probe p = nearlyFull(55, false);
            CHECK.due("parcel", p.parcel(0), "344 344 1 32257 2");
            CHECK.due("free", p.vault.count(4), 51);
        });
        CHECK.sentence("Terms 2: its blocks are the bits divided by 32256, rounded up (the least parcel)", () -> {
            Probe p = new Probe();
            p.series("a=b");
            p.vault.append(0, 0, 0);
            p.vault.flush();
            CHECK.due("parcel", p.parcel(0), "1 1 1 168 1");
        });
    }
}
