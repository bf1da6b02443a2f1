import java.util.ArrayList;
import java.util.List;
import java.util.concurrent.Callable;

/**
 * The document's last paragraph: what is thrown when several exceptions would do, that a call that
 * throws changes nothing, and what stays when the power goes off in it.
 */
public final class RefusedTest {
    private static final long MAX_TIME = 1099511627775L;
    private static final Check CHECK = new Check();

    private RefusedTest() {
    }

    private interface Use {
        Object on(Probe p) throws Exception;
    }

    private record Refusal(String name, Class<? extends RuntimeException> due, Use use) {
    }

    public static void main(String[] args) {
        CHECK.sentence("IllegalStateException: the power is off (the one named first when several would do)", RefusedTest::withoutPower);
        CHECK.sentence("calls that name no IllegalStateException need no power", RefusedTest::needNoPower);
        CHECK.sentence("the one named first when several would do", RefusedTest::namedFirst);
        CHECK.sentence("the one named first when several would do (with no room in the journal)", RefusedTest::namedFirstWithoutRoom);
        CHECK.sentence("a call that throws changes nothing", RefusedTest::changesNothing);
        CHECK.sentence("a call that throws changes nothing (the tape, too)", RefusedTest::changesNoByteOfTheTape);
        CHECK.sentence("a call that throws changes nothing (a cut that is set)", RefusedTest::changesNoCut);
        CHECK.sentence("a call that throws changes nothing (what is kept on the disk)", RefusedTest::changesNothingOnTheDisk);
        CHECK.sentence("when the power goes off in it, what was written before stays, and it throws IllegalStateException", RefusedTest::powerGoes);
        CHECK.sentence("the power goes off in a call that writes a block of the journal", RefusedTest::powerGoesWithARecord);
        CHECK.sentence("all memory is the class's own (two objects share none of it)", RefusedTest::twoObjects);
        CHECK.finish("RefusedTest");
    }

    private static void twoObjects() {
        Probe p = rich();
        String before = p.everything();
        Probe q = new Probe();
        CHECK.due("a new one beside it", q.everything(), "0 0 0 0 54 0 0 0 0 written 0 fault 0 at 0 tape 0 table -1 0 0 ");
        q.vault.format(32, 4);
        q.series("z=z,a=b");
        q.bulk(0, 1, 100, 2, 200);
        q.vault.flush();
        q.vault.delete(0, 1, 1);
        q.vault.retain(2);
        q.ask("latest by (z)({})", 0, 9, 3);
        q.vault.off();
        CHECK.due("the first one", p.everything(), before);
        q.vault.start();
        CHECK.due("the second one", q.counts() + " " + q.textOf(0) + " " + q.table(1, 3), "1 0 1 1 24 1 1 1 1 a=b,z=z z| 200 . .");
    }

    private static void put(List<Refusal> all, String name, Class<? extends RuntimeException> due, Use use) {
        all.add(new Refusal(name, due, use));
    }

    private static Object done(Runnable act) {
        act.run();
        return null;
    }

    private static Callable<?> call(Refusal refusal, Probe p) {
        return () -> refusal.use().on(p);
    }

    /** Two series, two parcels, a scar, a horizon, a head, a table, a fault, and x=y on the tape. */
    private static Probe rich() {
        Probe p = new Probe();
        p.series("a=b");
        p.series("a=c");
        p.bulk(0, 5, 5, 6, 6, 7, 7);
        p.vault.flush();
        p.bulk(1, 8, 8);
        p.vault.flush();
        p.vault.delete(0, 6, 6);
        p.vault.retain(6);
        p.vault.append(0, 9, 9);
        p.ask("sum by (a)({})", 6, 2, 2);
        p.series("q=");
        Tape.put(p.vault, "x=y");
        return p;
    }

    private static void withoutPower() {
        List<Refusal> all = new ArrayList<>();
        put(all, "series()", Probe.STATE, p -> p.vault.series());
        put(all, "letter(0, 0)", Probe.STATE, p -> p.vault.letter(0, 0));
        put(all, "letter(9, 0)", Probe.STATE, p -> p.vault.letter(9, 0));
        put(all, "append(0, 50, 0)", Probe.STATE, p -> p.vault.append(0, 50, 0));
        put(all, "append(9, -1, 0)", Probe.STATE, p -> p.vault.append(9, -1, 0));
        put(all, "append(0, -1, 0)", Probe.STATE, p -> p.vault.append(0, -1, 0));
        put(all, "bulk(0)", Probe.STATE, p -> p.vault.bulk(0));
        put(all, "bulk(-1)", Probe.STATE, p -> p.vault.bulk(-1));
        put(all, "delete(0, 0, 9)", Probe.STATE, p -> p.vault.delete(0, 0, 9));
        put(all, "delete(9, 1, 0)", Probe.STATE, p -> p.vault.delete(9, 1, 0));
        put(all, "delete(0, 1, 0)", Probe.STATE, p -> p.vault.delete(0, 1, 0));
        put(all, "sync()", Probe.STATE, p -> p.vault.sync());
        put(all, "flush()", Probe.STATE, p -> p.vault.flush());
        put(all, "compact(0)", Probe.STATE, p -> p.vault.compact(0));
        put(all, "compact(9)", Probe.STATE, p -> p.vault.compact(9));
        put(all, "retain(7)", Probe.STATE, p -> p.vault.retain(7));
        put(all, "retain(6)", Probe.STATE, p -> p.vault.retain(6));
        put(all, "retain(-1)", Probe.STATE, p -> p.vault.retain(-1));
        put(all, "ask(0, 1, 1)", Probe.STATE, p -> p.vault.ask(0, 1, 1));
        put(all, "ask(-1, 0, 0)", Probe.STATE, p -> p.vault.ask(-1, 0, 0));
        put(all, "count(0)", Probe.STATE, p -> p.vault.count(0));
        put(all, "count(9)", Probe.STATE, p -> p.vault.count(9));
        put(all, "parcel(0, 0)", Probe.STATE, p -> p.vault.parcel(0, 0));
        put(all, "parcel(9, 9)", Probe.STATE, p -> p.vault.parcel(9, 9));
        put(all, "last(0)", Probe.STATE, p -> p.vault.last(0));
        put(all, "last(9)", Probe.STATE, p -> p.vault.last(9));
        put(all, "cut(0)", Probe.STATE, p -> done(() -> p.vault.cut(0)));
        put(all, "cut(-2)", Probe.STATE, p -> done(() -> p.vault.cut(-2)));
        put(all, "off()", Probe.STATE, p -> done(() -> p.vault.off()));
        for (Refusal refusal : all) {
            Probe p = rich();
            p.vault.sync();
            String before = p.everything();
            p.vault.off();
            CHECK.refused(refusal.name(), refusal.due(), call(refusal, p));
            CHECK.due("start() behind " + refusal.name(), p.vault.start(), 2);
            CHECK.due("state behind " + refusal.name(), p.everything(), before);
            CHECK.due("the horizon", p.vault.retain(6), 0);
            CHECK.due("no cut is set", p.vault.retain(7), 0);
            CHECK.due("the tape", p.vault.series(), 2);
            CHECK.due("its bytes", p.textOf(2), "x=y");
        }
    }

    private static void needNoPower() {
        Probe p = rich();
        p.vault.off();
        int written = p.vault.written();
        CHECK.due("feed", p.vault.feed(0, 0, 0, 0, 0), 23);
        p.vault.end(3);
        CHECK.refusedAct("end(4)", Probe.ARGUMENT, () -> p.vault.end(4));
        CHECK.due("fault", p.fault(), "7 at 2");
        CHECK.refused("fault(2)", Probe.INDEX, () -> p.vault.fault(2));
        CHECK.due("names()", p.vault.names(), 1);
        CHECK.due("text", p.vault.text(0, 0, 0), 'b');
        CHECK.refused("text of row 2", Probe.INDEX, () -> p.vault.text(2, 0, 0));
        CHECK.due("isThere", p.vault.isThere(0, 0), true);
        CHECK.refused("isThere of row 2", Probe.INDEX, () -> p.vault.isThere(2, 0));
        CHECK.due("cell", p.vault.cell(0, 0), 7);
        CHECK.refused("cell of window 2", Probe.INDEX, () -> p.vault.cell(0, 2));
        CHECK.due("written()", p.vault.written(), written);
        CHECK.refusedAct("format(15, 2)", Probe.ARGUMENT, () -> p.vault.format(15, 2));
        p.vault.format(16, 2);
        CHECK.due("format", p.vault.count(4), 12);
    }

    private static List<Refusal> refusals() {
        List<Refusal> all = new ArrayList<>();
        put(all, "end(4)", Probe.ARGUMENT, p -> done(() -> p.vault.end(4)));
        put(all, "end(-1)", Probe.ARGUMENT, p -> done(() -> p.vault.end(-1)));
        put(all, "format(15, 2)", Probe.ARGUMENT, p -> done(() -> p.vault.format(15, 2)));
        put(all, "format(16, 9)", Probe.ARGUMENT, p -> done(() -> p.vault.format(16, 9)));
        put(all, "fault(2)", Probe.INDEX, p -> p.vault.fault(2));
        put(all, "letter(2, 0)", Probe.INDEX, p -> p.vault.letter(2, 0));
        put(all, "append(2, 50, 0)", Probe.INDEX, p -> p.vault.append(2, 50, 0));
        put(all, "append(0, 9, 0)", Probe.ARGUMENT, p -> p.vault.append(0, 9, 0));
        put(all, "append(1, 5, 0)", Probe.ARGUMENT, p -> p.vault.append(1, 5, 0));
        put(all, "append(0, too late, 0)", Probe.ARGUMENT, p -> p.vault.append(0, MAX_TIME + 1, 0));
        put(all, "bulk(2)", Probe.INDEX, p -> p.vault.bulk(2));
        put(all, "delete(-1, 0, 9)", Probe.INDEX, p -> p.vault.delete(-1, 0, 9));
        put(all, "delete(0, 9, 8)", Probe.ARGUMENT, p -> p.vault.delete(0, 9, 8));
        put(all, "compact(1)", Probe.INDEX, p -> p.vault.compact(1));
        put(all, "compact(-1)", Probe.INDEX, p -> p.vault.compact(-1));
        put(all, "retain(5)", Probe.ARGUMENT, p -> p.vault.retain(5));
        put(all, "retain(too late)", Probe.ARGUMENT, p -> p.vault.retain(MAX_TIME + 1));
        put(all, "ask(-1, 1, 1)", Probe.ARGUMENT, p -> p.vault.ask(-1, 1, 1));
        put(all, "ask(0, 0, 1)", Probe.ARGUMENT, p -> p.vault.ask(0, 0, 1));
        put(all, "ask(0, 1, 65)", Probe.ARGUMENT, p -> p.vault.ask(0, 1, 65));
        put(all, "text(2, 0, 0)", Probe.INDEX, p -> p.vault.text(2, 0, 0));
        put(all, "isThere(0, 2)", Probe.INDEX, p -> p.vault.isThere(0, 2));
        put(all, "cell(-1, 0)", Probe.INDEX, p -> p.vault.cell(-1, 0));
        put(all, "count(9)", Probe.ARGUMENT, p -> p.vault.count(9));
        put(all, "parcel(2, 0)", Probe.INDEX, p -> p.vault.parcel(2, 0));
        put(all, "parcel(0, 5)", Probe.ARGUMENT, p -> p.vault.parcel(0, 5));
        put(all, "last(2)", Probe.INDEX, p -> p.vault.last(2));
        put(all, "cut(-2)", Probe.ARGUMENT, p -> done(() -> p.vault.cut(-2)));
        put(all, "start()", Probe.STATE, p -> p.vault.start());
        return all;
    }

    private static void changesNothing() {
        for (Refusal refusal : refusals()) {
            Probe p = rich();
            String before = p.everything();
            CHECK.refused(refusal.name(), refusal.due(), call(refusal, p));
            CHECK.due("state behind " + refusal.name(), p.everything(), before);
            CHECK.due("the horizon behind " + refusal.name(), p.vault.retain(6), 0);
            CHECK.refused("the horizon behind " + refusal.name(), Probe.ARGUMENT, () -> p.vault.retain(5));
        }
    }

    private static void changesNoByteOfTheTape() {
        for (Refusal refusal : refusals()) {
            Probe p = rich();
            CHECK.refused(refusal.name(), refusal.due(), call(refusal, p));
            CHECK.due("series() behind " + refusal.name(), p.vault.series(), 2);
            CHECK.due("its text", p.textOf(2), "x=y");
        }
    }

    private static void changesNoCut() {
        for (Refusal refusal : refusals()) {
            Probe p = rich();
            p.vault.cut(1);
            CHECK.refused(refusal.name(), refusal.due(), call(refusal, p));
            CHECK.due("a block behind " + refusal.name(), p.vault.sync(), true);
            p.vault.append(0, 100, 0);
            CHECK.refused("another one behind " + refusal.name(), Probe.STATE, () -> p.vault.sync());
        }
    }

    private static void changesNothingOnTheDisk() {
        Probe usual = rich();
        usual.vault.off();
        int due = usual.vault.start();
        String state = usual.everything();
        for (Refusal refusal : refusals()) {
            Probe p = rich();
            CHECK.refused(refusal.name(), refusal.due(), call(refusal, p));
            p.vault.off();
            CHECK.due("start() behind " + refusal.name(), p.vault.start(), due);
            CHECK.due("state behind " + refusal.name(), p.everything(), state);
        }
    }

    private static void namedFirst() {
        Probe p = rich();
        CHECK.refused("append: no series, no time", Probe.INDEX, () -> p.vault.append(2, -1, 0));
        CHECK.refused("append: no series, below the horizon", Probe.INDEX, () -> p.vault.append(-1, 5, 0));
        CHECK.refused("delete: no series, from above to", Probe.INDEX, () -> p.vault.delete(2, 1, 0));
        CHECK.refused("parcel: no parcel, no such what", Probe.INDEX, () -> p.vault.parcel(2, 5));
        CHECK.refused("parcel: no parcel, no such what", Probe.INDEX, () -> p.vault.parcel(-1, -1));
        CHECK.refused("text: no row, no name", Probe.INDEX, () -> p.vault.text(2, 9, 9));
        CHECK.refused("letter: no series, no byte", Probe.INDEX, () -> p.vault.letter(2, -1));
    }

    private static void namedFirstWithoutRoom() {
        Probe p = new Probe();
        p.vault.format(16, 2);
        p.series("a=b");
        p.bulkOf(0, 0, 250);
        CHECK.refused("append: no series, no room", Probe.INDEX, () -> p.vault.append(1, 1000, 0));
        CHECK.refused("append: no time, no room", Probe.ARGUMENT, () -> p.vault.append(0, -1, 0));
        CHECK.refused("append: not above the last one, no room", Probe.ARGUMENT, () -> p.vault.append(0, 249, 0));
        CHECK.refused("append: no room", Probe.UNSUPPORTED, () -> p.vault.append(0, 1000, 0));
        CHECK.refused("delete: no series, no room", Probe.INDEX, () -> p.vault.delete(1, 0, 9));
        CHECK.refused("delete: from above to, no room", Probe.ARGUMENT, () -> p.vault.delete(0, 9, 0));
        CHECK.refused("delete: no room", Probe.UNSUPPORTED, () -> p.vault.delete(0, 0, 9));
        p.vault.off();
        CHECK.refused("append: no power", Probe.STATE, () -> p.vault.append(0, 1000, 0));
        Tape.put(p.vault, "c=d");
        CHECK.refused("series(): no power", Probe.STATE, () -> p.vault.series());
        Probe q = new Probe();
        q.vault.format(16, 8);
        q.series("a=b");
        for (int i = 0; i < 4; i++) {
            q.vault.append(0, i, i);
            q.vault.flush();
        }
        q.vault.append(0, 9, 9);
        CHECK.refused("flush(): too few free blocks", Probe.UNSUPPORTED, () -> q.vault.flush());
        q.vault.off();
        CHECK.refused("flush(): no power", Probe.STATE, () -> q.vault.flush());
    }

    /** The calls that write blocks, cut at each of these; then what start() finds. */
    private static void powerGoes() {
        powerGoesIn("sync()", 1, p -> p.vault.sync());
        powerGoesIn("flush()", 3, p -> p.vault.flush());
        powerGoesIn("compact(0)", 3, p -> p.vault.compact(0));
        powerGoesIn("retain(8)", 2, p -> p.vault.retain(8));
    }

    private static void powerGoesIn(String name, int blocks, Use use) {
        for (int n = 0; n < blocks; n++) {
            boolean synced = n > 0 && !name.equals("flush()");
            Probe due = rich();
            if (synced) {
                due.vault.sync();
            }
            due.vault.off();
            int records = due.vault.start();
            String state = due.counts() + " " + due.vault.last(0) + " " + due.vault.last(1);
            Probe p = rich();
            int written = p.vault.written();
            p.vault.cut(n);
            CHECK.refused(name + " cut at " + n, Probe.STATE, () -> use.on(p));
            CHECK.refused("the power is off", Probe.STATE, () -> p.vault.last(0));
            CHECK.due("written by " + name, p.vault.written(), written + n);
            CHECK.due("the tape behind " + name, p.tapeLength(), 3);
            CHECK.due("the fault behind " + name, p.fault(), "7 at 2");
            CHECK.due("the table behind " + name, p.table(2, 2), "b| 7 9; c| . 8");
            CHECK.due("start() behind " + name + " cut at " + n, p.vault.start(), records);
            CHECK.due("state behind " + name + " cut at " + n, p.counts() + " " + p.vault.last(0) + " " + p.vault.last(1), state);
            CHECK.due("the horizon", p.vault.retain(6), 0);
            CHECK.due("no cut is set", p.vault.retain(7), 0);
        }
        Probe p = rich();
        int written = p.vault.written();
        p.vault.cut(blocks);
        CHECK.due(name + " with blocks enough", answered(p, use), true);
        CHECK.due("written by " + name, p.vault.written(), written + blocks);
    }

    private static boolean answered(Probe p, Use use) {
        try {
            use.on(p);
            return true;
        } catch (Exception e) {
            return false;
        }
    }

    private static void powerGoesWithARecord() {
        List<Refusal> all = new ArrayList<>();
        put(all, "series()", Probe.STATE, p -> p.vault.series());
        put(all, "append", Probe.STATE, p -> p.vault.append(0, 1000, 0));
        put(all, "delete", Probe.STATE, p -> p.vault.delete(0, 0, 3));
        for (Refusal refusal : all) {
            Probe p = new Probe();
            p.series("a=b");
            p.bulkOf(0, 0, 4);
            p.vault.sync();
            p.bulkOf(0, 10, 120);
            p.series("q=");
            Tape.put(p.vault, "x=y");
            CHECK.due("a full block", p.vault.count(5), 126);
            p.vault.cut(0);
            CHECK.refused(refusal.name(), Probe.STATE, call(refusal, p));
            CHECK.refused("the power is off", Probe.STATE, () -> p.vault.count(0));
            CHECK.due("written behind " + refusal.name(), p.vault.written(), 1);
            CHECK.due("the tape behind " + refusal.name(), p.tapeLength(), 3);
            CHECK.due("the fault behind " + refusal.name(), p.fault(), "7 at 2");
            CHECK.due("start() behind " + refusal.name(), p.vault.start(), 5);
            CHECK.due("counts behind " + refusal.name(), p.counts(), "1 4 0 0 54 6 5 5 4");
            CHECK.due("last behind " + refusal.name(), p.vault.last(0), 3);
        }
    }
}
