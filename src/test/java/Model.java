import java.util.ArrayList;
import java.util.Comparator;
import java.util.HashMap;
import java.util.HashSet;
import java.util.List;
import java.util.Map;
import java.util.Set;
import java.util.TreeMap;

/**
 * The document told once more, as plainly as may be and without thought for room or speed: a second
 * opinion for ModelTest. It keeps whole disk blocks and whole manifests, and each packed point bears
 * the delete that let it go.
 */
final class Model {
    static final long MAX = 1099511627775L;

    static final class Pt {
        final int s;
        final long t;
        final long v;
        Object by;

        Pt(int s, long t, long v) {
            this.s = s;
            this.t = t;
            this.v = v;
        }

        Pt copy() {
            Pt c = new Pt(s, t, v);
            c.by = by;
            return c;
        }
    }

    static final class Rec {
        char kind;
        int s;
        long a;
        long b;
        String text;
        int units = 1;
    }

    static final class Manifest {
        List<List<Pt>> parcels = new ArrayList<>();
        long horizon;
        int epoch;
        List<String> texts = new ArrayList<>();
        List<Long> lasts = new ArrayList<>();
        int catalog;
    }

    static final class JournalBlock {
        int epoch;
        List<Rec> recs = new ArrayList<>();

        int fill() {
            int sum = 0;
            for (Rec r : recs) {
                sum += r.units;
            }
            return sum;
        }
    }

    // the disk
    int blocks;
    int journalBlocks;
    int written;
    Manifest manifest;
    JournalBlock[] disk;
    // the memory
    boolean on;
    int cut;
    Manifest mem;
    List<JournalBlock> journal;
    boolean dirty;
    List<Pt> head;
    // what stays
    List<Integer> tape = new ArrayList<>();
    int faultCode;
    int faultPlace;
    ModelTable table;

    Model() {
        format(64, 8);
    }

    static RuntimeException state() {
        return new IllegalStateException();
    }

    static RuntimeException index() {
        return new IndexOutOfBoundsException();
    }

    static RuntimeException argument() {
        return new IllegalArgumentException();
    }

    static RuntimeException unsupported() {
        return new UnsupportedOperationException();
    }

    int feed(int a, int b, int c, int d, int e) {
        if (tape.size() + 20 > 65536) {
            throw unsupported();
        }
        for (int x : new int[] {a, b, c, d, e}) {
            tape.add(x >>> 24);
            tape.add(x >>> 16 & 255);
            tape.add(x >>> 8 & 255);
            tape.add(x & 255);
        }
        return tape.size();
    }

    void end(int n) {
        if (n < 0 || n > tape.size()) {
            throw argument();
        }
        tape = new ArrayList<>(tape.subList(0, n));
    }

    void format(int b, int j) {
        if (b < 16 || b > 256 || j < 2 || j > b - 8) {
            throw argument();
        }
        blocks = b;
        journalBlocks = j;
        written = 0;
        on = true;
        cut = -1;
        table = null;
        manifest = new Manifest();
        mem = copy(manifest);
        disk = new JournalBlock[j];
        head = new ArrayList<>();
        emptyJournal();
    }

    void emptyJournal() {
        journal = new ArrayList<>();
        JournalBlock first = new JournalBlock();
        first.epoch = mem.epoch;
        journal.add(first);
        dirty = false;
    }

    static Manifest copy(Manifest m) {
        Manifest c = new Manifest();
        for (List<Pt> p : m.parcels) {
            List<Pt> q = new ArrayList<>();
            for (Pt x : p) {
                q.add(x.copy());
            }
            c.parcels.add(q);
        }
        c.horizon = m.horizon;
        c.epoch = m.epoch;
        c.texts.addAll(m.texts);
        c.lasts.addAll(m.lasts);
        c.catalog = m.catalog;
        return c;
    }

    void power() {
        if (!on) {
            throw state();
        }
    }

    void seriesThere(int s) {
        if (s < 0 || s >= mem.texts.size()) {
            throw index();
        }
    }

    void write() {
        if (cut == 0) {
            cut = -1;
            on = false;
            throw state();
        }
        if (cut > 0) {
            cut--;
        }
        written++;
    }

    boolean syncNow() {
        if (!dirty) {
            return false;
        }
        write();
        JournalBlock copy = new JournalBlock();
        JournalBlock filled = journal.get(journal.size() - 1);
        copy.epoch = filled.epoch;
        copy.recs.addAll(filled.recs);
        disk[journal.size() - 1] = copy;
        dirty = false;
        return true;
    }

    boolean room(int units) {
        return journal.get(journal.size() - 1).fill() + units <= 126 || journal.size() < journalBlocks;
    }

    void record(Rec r) {
        if (journal.get(journal.size() - 1).fill() + r.units > 126) {
            syncNow();
            JournalBlock next = new JournalBlock();
            next.epoch = mem.epoch;
            journal.add(next);
        }
        journal.get(journal.size() - 1).recs.add(r);
        dirty = true;
    }

    static int unitsOf(String text) {
        int units = 1;
        for (int i = 0; i < text.length(); i += 32) {
            units++;
        }
        return units;
    }

    static boolean wordByte(int c) {
        return c >= 33 && c <= 126 && "\"=,(){}".indexOf(c) < 0;
    }

    int series() {
        power();
        int[] at = {0};
        TreeMap<String, String> labels = new TreeMap<>();
        int fault = readLabels(labels, at);
        if (fault != 0) {
            faultCode = fault;
            faultPlace = at[0];
            tape.clear();
            return -1;
        }
        StringBuilder text = new StringBuilder();
        for (Map.Entry<String, String> e : labels.entrySet()) {
            text.append(text.length() == 0 ? "" : ",").append(e.getKey()).append('=').append(e.getValue());
        }
        String t = text.toString();
        int found = mem.texts.indexOf(t);
        if (found < 0) {
            if (mem.texts.size() == 256 || !room(unitsOf(t))) {
                throw unsupported();
            }
            Rec r = new Rec();
            r.kind = 's';
            r.text = t;
            r.units = unitsOf(t);
            record(r);
            found = mem.texts.size();
            mem.texts.add(t);
            mem.lasts.add(-1L);
        }
        faultCode = 0;
        faultPlace = 0;
        tape.clear();
        return found;
    }

    int readLabels(Map<String, String> labels, int[] at) {
        int p = 0;
        while (true) {
            int start = p;
            StringBuilder name = new StringBuilder();
            while (p < tape.size() && wordByte(tape.get(p)) && name.length() < 24) {
                name.append((char) (int) tape.get(p++));
            }
            if (name.length() == 0 || p == tape.size() || tape.get(p) != '=') {
                at[0] = p;
                return 7;
            }
            if (labels.containsKey(name.toString()) || labels.size() == 6) {
                at[0] = start;
                return 8;
            }
            p++;
            StringBuilder value = new StringBuilder();
            while (p < tape.size() && wordByte(tape.get(p)) && value.length() < 24) {
                value.append((char) (int) tape.get(p++));
            }
            at[0] = p;
            if (value.length() == 0) {
                return 7;
            }
            labels.put(name.toString(), value.toString());
            if (p == tape.size()) {
                return 0;
            }
            if (tape.get(p) != ',') {
                return 7;
            }
            p++;
        }
    }

    int fault(int what) {
        if (what != 0 && what != 1) {
            throw index();
        }
        return what == 0 ? faultCode : faultPlace;
    }

    int letter(int s, int k) {
        power();
        seriesThere(s);
        String t = mem.texts.get(s);
        return k < 0 || k >= t.length() ? -1 : t.charAt(k);
    }

    int append(int s, long time, long value) {
        power();
        seriesThere(s);
        if (time < 0 || time > MAX || time <= mem.lasts.get(s) || time < mem.horizon) {
            throw argument();
        }
        if (!room(1)) {
            throw unsupported();
        }
        Rec r = new Rec();
        r.kind = 'p';
        r.s = s;
        r.a = time;
        r.b = value;
        record(r);
        mem.lasts.set(s, time);
        head.add(new Pt(s, time, value));
        return head.size();
    }

    int bulk(int s) {
        power();
        seriesThere(s);
        List<Integer> bytes = tape;
        tape = new ArrayList<>();
        int came = 0;
        for (int p = 0; p + 16 <= bytes.size(); p += 16) {
            long time = 0;
            long value = 0;
            for (int i = 0; i < 8; i++) {
                time = time * 256 + bytes.get(p + i);
                value = value * 256 + bytes.get(p + 8 + i);
            }
            try {
                append(s, time, value);
            } catch (IllegalArgumentException | UnsupportedOperationException e) {
                return came;
            }
            came++;
        }
        return came;
    }

    boolean seen(Pt p) {
        return p.by == null && p.t >= mem.horizon;
    }

    int delete(int s, long from, long to) {
        power();
        seriesThere(s);
        if (from > to) {
            throw argument();
        }
        int packed = 0;
        int fresh = 0;
        for (List<Pt> parcel : mem.parcels) {
            for (Pt p : parcel) {
                if (p.s == s && p.t >= from && p.t <= to && seen(p)) {
                    packed++;
                }
            }
        }
        for (Pt p : head) {
            if (p.s == s && p.t >= from && p.t <= to) {
                fresh++;
            }
        }
        if (packed + fresh == 0) {
            return 0;
        }
        if (packed > 0 && scars() == 64 || !room(1)) {
            throw unsupported();
        }
        Rec r = new Rec();
        r.kind = 'd';
        r.s = s;
        r.a = from;
        r.b = to;
        record(r);
        doDelete(s, from, to);
        return packed + fresh;
    }

    void doDelete(int s, long from, long to) {
        Object by = new Object();
        for (List<Pt> parcel : mem.parcels) {
            for (Pt p : parcel) {
                if (p.s == s && p.t >= from && p.t <= to && seen(p)) {
                    p.by = by;
                }
            }
        }
        head.removeIf(p -> p.s == s && p.t >= from && p.t <= to);
    }

    int scars() {
        Set<Object> all = new HashSet<>();
        for (List<Pt> parcel : mem.parcels) {
            for (Pt p : parcel) {
                if (p.by != null) {
                    all.add(p.by);
                }
            }
        }
        return all.size();
    }

    boolean sync() {
        power();
        return syncNow();
    }

    static List<Pt> pack(List<Pt> points) {
        List<Pt> packed = new ArrayList<>();
        for (Pt p : points) {
            packed.add(new Pt(p.s, p.t, p.v));
        }
        packed.sort(Comparator.<Pt>comparingInt(p -> p.s).thenComparingLong(p -> p.t));
        return packed;
    }

    static int chunks(List<Pt> parcel) {
        Set<Integer> all = new HashSet<>();
        for (Pt p : parcel) {
            all.add(p.s);
        }
        return all.size();
    }

    static int bits(List<Pt> parcel) {
        Map<Integer, List<Pt>> bySeries = new TreeMap<>();
        for (Pt p : parcel) {
            bySeries.computeIfAbsent(p.s, k -> new ArrayList<>()).add(p);
        }
        int sum = 0;
        for (List<Pt> chunk : bySeries.values()) {
            sum += 64 + 40 + 64;
            int[] frame = null;
            for (int i = 1; i < chunk.size(); i++) {
                long step = chunk.get(i).t - chunk.get(i - 1).t;
                long turn = i == 1 ? step : step - (chunk.get(i - 1).t - chunk.get(i - 2).t);
                sum += turn == 0 ? 1 : -64 <= turn && turn < 64 ? 9 : -512 <= turn && turn < 512 ? 13
                        : -4096 <= turn && turn < 4096 ? 17 : 45;
                String x = Long.toBinaryString(chunk.get(i).v ^ chunk.get(i - 1).v);
                x = "0".repeat(64 - x.length()) + x;
                if (x.indexOf('1') < 0) {
                    sum += 1;
                    continue;
                }
                int a = Math.min(31, x.indexOf('1'));
                int b = 63 - x.lastIndexOf('1');
                if (frame != null && a >= frame[0] && b >= 64 - frame[0] - frame[1]) {
                    sum += 2 + frame[1];
                } else {
                    frame = new int[] {a, 64 - a - b};
                    sum += 13 + frame[1];
                }
            }
        }
        return sum;
    }

    static int blocksOf(List<Pt> parcel) {
        return parcel.isEmpty() ? 0 : (bits(parcel) - 1) / 32256 + 1;
    }

    int free() {
        int used = 2 + journalBlocks + mem.catalog;
        for (List<Pt> p : mem.parcels) {
            used += blocksOf(p);
        }
        return blocks - used;
    }

    int records() {
        int sum = 0;
        for (JournalBlock b : journal) {
            sum += b.recs.size();
        }
        return sum;
    }

    int flush() {
        power();
        if (records() == 0) {
            return 0;
        }
        List<Pt> made = pack(head);
        int catalog = 0;
        int fill = 126;
        for (String t : mem.texts) {
            if (fill + unitsOf(t) > 126) {
                catalog++;
                fill = 0;
            }
            fill += unitsOf(t);
        }
        if (!made.isEmpty() && mem.parcels.size() == 32 || free() < blocksOf(made) + catalog) {
            throw unsupported();
        }
        int all = blocksOf(made) + catalog + 1;
        for (int i = 0; i < all; i++) {
            write();
        }
        if (!made.isEmpty()) {
            mem.parcels.add(made);
        }
        mem.catalog = catalog;
        mem.epoch++;
        manifest = copy(mem);
        head.clear();
        emptyJournal();
        return all;
    }

    /** The manifest is written, but the catalog (and with it the journal) stays as it was. */
    void manifestAlone() {
        Manifest next = copy(mem);
        next.texts = manifest.texts;
        next.lasts = manifest.lasts;
        manifest = next;
    }

    int compact(int k) {
        power();
        if (k < 0 || (long) k + 1 >= mem.parcels.size()) {
            throw index();
        }
        List<Pt> both = new ArrayList<>();
        for (int i = k; i <= k + 1; i++) {
            for (Pt p : mem.parcels.get(i)) {
                if (seen(p)) {
                    both.add(p);
                }
            }
        }
        List<Pt> made = pack(both);
        if (free() < blocksOf(made)) {
            throw unsupported();
        }
        int before = written;
        syncNow();
        for (int i = 0; i <= blocksOf(made); i++) {
            write();
        }
        mem.parcels.remove(k);
        mem.parcels.remove(k);
        if (!made.isEmpty()) {
            mem.parcels.add(k, made);
        }
        manifestAlone();
        return written - before;
    }

    int retain(long time) {
        power();
        if (time < 0 || time > MAX || time < mem.horizon) {
            throw argument();
        }
        if (time == mem.horizon) {
            return 0;
        }
        syncNow();
        write();
        int before = pointsSeen();
        mem.horizon = time;
        mem.parcels.removeIf(parcel -> parcel.stream().allMatch(p -> p.t < time));
        head.removeIf(p -> p.t < time);
        manifestAlone();
        return before - pointsSeen();
    }

    int pointsSeen() {
        int sum = head.size();
        for (List<Pt> parcel : mem.parcels) {
            for (Pt p : parcel) {
                sum += seen(p) ? 1 : 0;
            }
        }
        return sum;
    }

    int count(int what) {
        power();
        int units = 0;
        for (JournalBlock b : journal) {
            units += b.fill();
        }
        switch (what) {
            case 0: return mem.texts.size();
            case 1: return head.size();
            case 2: return mem.parcels.size();
            case 3: return scars();
            case 4: return free();
            case 5: return units;
            case 6: return records();
            case 7: return keptRecords().size();
            case 8: return pointsSeen();
            default: throw argument();
        }
    }

    List<Rec> keptRecords() {
        List<Rec> kept = new ArrayList<>();
        for (int i = 0; i < disk.length && disk[i] != null && disk[i].epoch == manifest.epoch; i++) {
            kept.addAll(disk[i].recs);
        }
        return kept;
    }

    int parcel(int k, int what) {
        power();
        if (k < 0 || k >= mem.parcels.size()) {
            throw index();
        }
        List<Pt> p = mem.parcels.get(k);
        int seen = 0;
        for (Pt x : p) {
            seen += seen(x) ? 1 : 0;
        }
        switch (what) {
            case 0: return p.size();
            case 1: return seen;
            case 2: return chunks(p);
            case 3: return bits(p);
            case 4: return blocksOf(p);
            default: throw argument();
        }
    }

    long last(int s) {
        power();
        seriesThere(s);
        return mem.lasts.get(s);
    }

    int written() {
        return written;
    }

    void cut(int n) {
        power();
        if (n < -1) {
            throw argument();
        }
        cut = n;
    }

    void off() {
        power();
        on = false;
    }

    int start() {
        if (on) {
            throw state();
        }
        on = true;
        mem = copy(manifest);
        head = new ArrayList<>();
        emptyJournal();
        List<Rec> kept = new ArrayList<>();
        for (int i = 0; i < disk.length && disk[i] != null && disk[i].epoch == manifest.epoch; i++) {
            JournalBlock again = new JournalBlock();
            again.epoch = manifest.epoch;
            again.recs.addAll(disk[i].recs);
            if (i == 0) {
                journal.clear();
            }
            journal.add(again);
            kept.addAll(again.recs);
        }
        for (Rec r : kept) {
            if (r.kind == 's') {
                mem.texts.add(r.text);
                mem.lasts.add(-1L);
            } else if (r.kind == 'p') {
                mem.lasts.set(r.s, Math.max(r.a, mem.lasts.get(r.s)));
                if (r.a >= mem.horizon) {
                    head.add(new Pt(r.s, r.a, r.b));
                }
            } else {
                doDelete(r.s, r.a, r.b);
            }
        }
        return kept.size();
    }

    int ask(long from, long width, int n) {
        power();
        if (from < 0 || from > MAX || width < 1 || width > MAX || n < 1 || n > 64) {
            throw argument();
        }
        StringBuilder text = new StringBuilder();
        for (int b : tape) {
            text.append((char) b);
        }
        tape.clear();
        table = null;
        ModelQuestion q = new ModelQuestion(text.toString(), this, from, width, n);
        faultCode = 0;
        faultPlace = 0;
        try {
            table = q.answer();
        } catch (ModelQuestion.Fault f) {
            faultCode = f.code;
            faultPlace = f.place;
            return -1;
        }
        return table.rows.size();
    }

    int names() {
        return table == null ? -1 : table.names.size();
    }

    Map.Entry<List<String>, Long[]> row(int row) {
        if (table == null || row < 0 || row >= table.rows.size()) {
            throw index();
        }
        return new ArrayList<>(table.rows.entrySet()).get(row);
    }

    int text(int row, int k, int i) {
        List<String> texts = row(row).getKey();
        if (k < 0 || k >= texts.size() || i < 0 || i >= texts.get(k).length()) {
            return -1;
        }
        return texts.get(k).charAt(i);
    }

    boolean isThere(int row, int window) {
        Long[] cells = row(row).getValue();
        if (window < 0 || window >= cells.length) {
            throw index();
        }
        return cells[window] != null;
    }

    long cell(int row, int window) {
        return isThere(row, window) ? row(row).getValue()[window] : 0;
    }

    /** All points that are seen of a series, by rising times. */
    List<Pt> seenOf(int s) {
        List<Pt> all = new ArrayList<>();
        for (List<Pt> parcel : mem.parcels) {
            for (Pt p : parcel) {
                if (p.s == s && seen(p)) {
                    all.add(p);
                }
            }
        }
        for (Pt p : head) {
            if (p.s == s) {
                all.add(p);
            }
        }
        all.sort(Comparator.comparingLong(p -> p.t));
        return all;
    }

    Map<String, String> labelsOf(int s) {
        Map<String, String> labels = new HashMap<>();
        for (String label : mem.texts.get(s).split(",")) {
            labels.put(label.split("=")[0], label.split("=")[1]);
        }
        return labels;
    }
}
