/**
 * Limits that the document names and that no run of 512 calls reaches (20 bytes a feed, a call at
 * least for each series). What later calls answer is free; the class keeps these all the same.
 */
public final class BeyondTest {
    private static final Check CHECK = new Check();

    private BeyondTest() {
    }

    public static void main(String[] args) {
        CHECK.sentence("2: they would be more than 65536", BeyondTest::fullTape);
        CHECK.sentence("5: there are 256", BeyondTest::fullOfSeries);
        CHECK.sentence("1: 8 of them for the journal", BeyondTest::eightBlocksForTheJournal);
        CHECK.sentence("15: how many rows it has", BeyondTest::rowForEachSeries);
        CHECK.finish("BeyondTest");
    }

    private static void put(SeriesVault vault, byte[] bytes) {
        for (int i = 0; i < bytes.length; i += 20) {
            vault.feed(Tape.word(bytes, i), Tape.word(bytes, i + 4), Tape.word(bytes, i + 8), Tape.word(bytes, i + 12), Tape.word(bytes, i + 16));
        }
        vault.end(bytes.length);
    }

    private static int series(SeriesVault vault, String text) {
        vault.end(0);
        put(vault, Tape.bytes(text));
        return vault.series();
    }

    private static void fullTape() {
        SeriesVault vault = new SeriesVault();
        for (int i = 1; i <= 3276; i++) {
            CHECK.due("feed " + i, vault.feed(-1, -2, -3, -4, -5), 20 * i);
        }
        CHECK.refused("feed to 65540", Probe.UNSUPPORTED, () -> vault.feed(0, 0, 0, 0, 0));
        CHECK.refusedAct("it has not 65521", Probe.ARGUMENT, () -> vault.end(65521));
        vault.end(65517);
        CHECK.refused("feed to 65537", Probe.UNSUPPORTED, () -> vault.feed(0, 0, 0, 0, 0));
        vault.end(65516);
        CHECK.due("feed to 65536", vault.feed(0, 0, 0, 0, 0), 65536);
        CHECK.refused("feed to 65556", Probe.UNSUPPORTED, () -> vault.feed(0, 0, 0, 0, 0));
        CHECK.due("a question of 65536 bytes", vault.ask(0, 1, 1), SeriesVault.NONE);
        CHECK.due("the tape is empty", vault.feed(0, 0, 0, 0, 0), 20);
    }

    private static void fullOfSeries() {
        SeriesVault vault = new SeriesVault();
        for (int i = 0; i < 256; i++) {
            CHECK.due("series", series(vault, "n=" + i), i);
        }
        series(vault, "a=");
        put(vault, Tape.bytes("n=256"));
        CHECK.refused("the 257th", Probe.UNSUPPORTED, () -> vault.series());
        CHECK.due("fault stays", vault.fault(0), 7);
        CHECK.due("the tape stays", vault.feed(0, 0, 0, 0, 0), 25);
        CHECK.due("series", vault.count(0), 256);
        CHECK.due("one that was there", series(vault, "n=255"), 255);
        CHECK.due("one with a fault", series(vault, "n=256,"), SeriesVault.NONE);
        CHECK.due("blocks are written one by one", vault.written(), 4);
        CHECK.due("512 units of the catalog", vault.flush(), 6);
        CHECK.refused("the 257th behind a flush", Probe.UNSUPPORTED, () -> {
            put(vault, Tape.bytes("n=256"));
            return vault.series();
        });
    }

    private static void eightBlocksForTheJournal() {
        SeriesVault vault = new SeriesVault();
        series(vault, "a=b");
        for (int i = 0; i < 8 * 126 - 2; i++) {
            CHECK.due("point " + i, vault.append(0, i, i), i + 1);
        }
        CHECK.refused("one more", Probe.UNSUPPORTED, () -> vault.append(0, 5000, 0));
        CHECK.due("written", vault.written(), 7);
    }

    private static void rowForEachSeries() {
        SeriesVault vault = new SeriesVault();
        for (int s = 0; s < 256; s++) {
            series(vault, "n=" + (1000 + s));
            vault.append(s, s % 64, s);
        }
        put(vault, Tape.bytes("first by (n)({}) + latest by (n)({}) - sum by (n)({})"));
        CHECK.due("rows", vault.ask(0, 1, 64), 256);
        for (int s = 0; s < 256; s++) {
            CHECK.due("its text", vault.text(s, 0, 3), '0' + s % 10);
            CHECK.due("its cell", vault.cell(s, s % 64), s);
            CHECK.due("another window", vault.isThere(s, (s + 1) % 64), false);
        }
        CHECK.refused("row 256", Probe.INDEX, () -> vault.cell(256, 0));
    }
}
