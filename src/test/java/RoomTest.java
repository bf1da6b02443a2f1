import java.lang.management.ManagementFactory;

/**
 * Runs of 512 dear calls: what each one makes, in bytes, must stay below the number of elements that
 * a run may make (an element has at least a byte, an object at least sixteen).
 */
public final class RoomTest {
    private static final long ROOM = 7300000;
    private static final com.sun.management.ThreadMXBean THREADS =
            (com.sun.management.ThreadMXBean) ManagementFactory.getThreadMXBean();
    private static final Check CHECK = new Check();

    private int calls;
    private SeriesVault vault;

    private RoomTest() {
    }

    private interface Run {
        void go(RoomTest room);
    }

    public static void main(String[] args) {
        measure("numbers", room -> room.askLong("1", "+1"));
        measure("turned numbers", room -> room.askLong("1", "*-1"));
        measure("functions", room -> room.askLong("sum({})", "+sum({})"));
        measure("matches", room -> room.askLong("sum({", "a=\"\",", "a=\"\"})"));
        measure("names", room -> room.askLong("sum by (a)({})", "+sum by (a)({})"));
        measure("short questions", RoomTest::shortQuestions);
        measure("great tables", RoomTest::greatTables);
        measure("putting together", RoomTest::puttingTogether);
        measure("refused flushes", RoomTest::refusedFlushes);
        measure("series", RoomTest::manySeries);
        measure("formats", RoomTest::formats);
        measure("power", RoomTest::power);
        CHECK.finish("RoomTest");
    }

    private static void measure(String name, Run run) {
        measured(run);
        long bytes = measured(run);
        System.out.println("  " + name + ": " + bytes + " bytes");
        CHECK.due("room of " + name, bytes < ROOM, true);
    }

    private static long measured(Run run) {
        RoomTest room = new RoomTest();
        long thread = Thread.currentThread().getId();
        long before = THREADS.getThreadAllocatedBytes(thread);
        room.vault = new SeriesVault();
        run.go(room);
        long after = THREADS.getThreadAllocatedBytes(thread);
        CHECK.due("calls", room.calls <= 512, true);
        return after - before;
    }

    private boolean more() {
        calls++;
        return calls <= 500;
    }

    private void tape(byte[] bytes) {
        for (int i = 0; i < bytes.length; i += 20) {
            calls++;
            vault.feed(Tape.word(bytes, i), Tape.word(bytes, i + 4), Tape.word(bytes, i + 8), Tape.word(bytes, i + 12), Tape.word(bytes, i + 16));
        }
        calls++;
        vault.end(bytes.length);
    }

    private void askLong(String... parts) {
        StringBuilder text = new StringBuilder(parts[0]);
        while (text.length() < 9700) {
            text.append(parts[1]);
        }
        text.append(parts.length > 2 ? parts[2] : "");
        tape(Tape.bytes("a=b"));
        vault.series();
        vault.append(0, 1, 1);
        tape(Tape.bytes(text.toString()));
        CHECK.due("rows", vault.ask(0, 1, 64) >= 0, true);
        calls += 3;
    }

    private void shortQuestions() {
        tape(Tape.bytes("a=b"));
        vault.series();
        vault.append(0, 1, 1);
        for (int i = 0; more() && more() && more(); i++) {
            vault.feed(0x73756d28, 0x7b7d292d, 0x73756d28, 0x7b7d292a, 0x31202020);
            vault.ask(0, 1, 64);
        }
    }

    private void greatTables() {
        for (int s = 0; s < 140; s++) {
            calls++;
            vault.feed(0x613d3030 + (s / 10 % 10) * 256 + s % 10, 0x30303030 + s / 100, 0x30303030, 0x30303030, 0x30303030);
            vault.series();
            vault.append(s, 1, 1);
            calls += 2;
        }
        StringBuilder text = new StringBuilder("sum by (a)({})");
        for (int i = 0; i < 8; i++) {
            text.append("+sum by(a)({})*(sum by(a)({})");
        }
        tape(Tape.bytes(text.append("))))))))").toString()));
        CHECK.due("rows", vault.ask(1, 1, 64), 140);
        calls++;
    }

    private void puttingTogether() {
        long[] numbers = new long[2 * 250];
        for (int i = 0; i < 250; i++) {
            numbers[2 * i] = i;
        }
        tape(Tape.bytes("a=b"));
        vault.series();
        tape(Tape.points(numbers));
        vault.bulk(0);
        vault.flush();
        for (int i = 0; more() && more() && more(); i++) {
            vault.append(0, 1000 + i, i);
            vault.flush();
            vault.compact(0);
        }
    }

    private void refusedFlushes() {
        vault.format(16, 8);
        tape(Tape.bytes("a=b"));
        vault.series();
        for (int i = 0; i < 5; i++) {
            vault.append(0, i, i);
            calls += 2;
            if (i < 4) {
                vault.flush();
            }
        }
        long[] numbers = new long[2 * 300];
        for (int i = 0; i < 300; i++) {
            numbers[2 * i] = i + 10;
        }
        tape(Tape.points(numbers));
        vault.bulk(0);
        while (more()) {
            try {
                vault.flush();
            } catch (UnsupportedOperationException e) {
                continue;
            }
            CHECK.due("flush refused", 0, 1);
        }
    }

    private void manySeries() {
        for (int i = 0; more() && more(); i++) {
            vault.feed(0x613d6100 + '0' + i % 10, 0x2c623d30, 0x2c633d30 + i / 10 % 10, 0x2c643d30, 0x2c653d30 + i / 100);
            vault.series();
        }
    }

    private void formats() {
        for (int i = 0; more(); i++) {
            vault.format(256, 248);
        }
    }

    private void power() {
        tape(Tape.bytes("a=b"));
        vault.series();
        long[] numbers = new long[2 * 250];
        for (int i = 0; i < 250; i++) {
            numbers[2 * i] = i;
        }
        tape(Tape.points(numbers));
        vault.bulk(0);
        vault.sync();
        while (more() && more()) {
            vault.off();
            vault.start();
        }
    }
}
