import java.util.Random;
import java.util.concurrent.Callable;

/** Runs of up to 512 calls, each made of a vault and of the model: their answers must be the same. */
public final class ModelTest {
    private static final String[] NAMES = {"a", "b", "job", "host", "x_1", "by", "sum", "zone"};
    private static final String[] VALUES = {"0", "1", "api", "ap", "apis", "web", "~!", "db"};
    private static final String[] FUNCS = {"sum", "count", "least", "most", "first", "latest", "growth"};

    private final Random random;
    private final int profile;
    private final Vault vault = new Vault();
    private final Model model = new Model();
    private final StringBuilder told = new StringBuilder();
    private int wrong;
    private int lastWindows;

    private ModelTest(int seed) {
        random = new Random(seed);
        profile = seed % 6;
    }

    public static void main(String[] args) {
        int from = args.length > 0 ? Integer.parseInt(args[0]) : 0;
        int to = args.length > 1 ? Integer.parseInt(args[1]) : 1500;
        int wrongRuns = 0;
        for (int seed = from; seed < to; seed++) {
            ModelTest run = new ModelTest(seed);
            if (!run.goes()) {
                wrongRuns++;
                System.out.println("run " + seed + ":\n" + run.told);
            }
        }
        System.out.println((to - from) + " runs beside the model, " + wrongRuns + " wrong");
        System.exit(wrongRuns == 0 ? 0 : 1);
    }

    private boolean goes() {
        if (profile == 1 || profile == 2) {
            int blocks = 16 + random.nextInt(6);
            int journal = 2 + random.nextInt(blocks - 9);
            both("format", () -> { vault.format(blocks, journal); return 0; }, () -> { model.format(blocks, journal); return 0; });
        }
        // A step that has too few calls left is not made: so the rounds are bounded, too.
        for (int i = 0; i < Vault.CALLS && vault.callsLeft() > 60 && wrong == 0; i++) {
            step();
            if (random.nextInt(3) == 0) {
                look(2);
            }
        }
        lookAtCounts();
        look(vault.callsLeft());
        return wrong == 0;
    }

    private static String answer(Callable<?> call) {
        try {
            return String.valueOf(call.call());
        } catch (Exception e) {
            return e.getClass().getSimpleName();
        }
    }

    private String both(String name, Callable<?> ours, Callable<?> due) {
        String got = answer(ours);
        String want = answer(due);
        told.append("  ").append(name).append(" -> ").append(got).append('\n');
        if (!got.equals(want)) {
            wrong++;
            told.append("  due is ").append(want).append('\n');
        }
        return got;
    }

    private void same(String name, Callable<?> ours, Callable<?> due) {
        String got = answer(ours);
        String want = answer(due);
        if (!got.equals(want)) {
            wrong++;
            told.append("  ").append(name).append(" -> ").append(got).append(", due is ").append(want).append('\n');
        }
    }

    /** False if that would take too many of the calls that are left. */
    private boolean tape(byte[] bytes) {
        if (bytes.length / 20 + 30 > vault.callsLeft()) {
            return false;
        }
        if (random.nextInt(40) > 0) {
            vault.end(0);
            model.end(0);
        }
        int before = model.tape.size();
        for (int i = 0; i < bytes.length; i += 20) {
            int[] w = new int[5];
            for (int j = 0; j < 5; j++) {
                w[j] = Tape.word(bytes, i + 4 * j);
            }
            same("feed", () -> vault.feed(w[0], w[1], w[2], w[3], w[4]), () -> model.feed(w[0], w[1], w[2], w[3], w[4]));
        }
        int n = before + bytes.length;
        same("end", () -> { vault.end(n); return 0; }, () -> { model.end(n); return 0; });
        return true;
    }

    private void step() {
        if (!model.on && random.nextInt(4) > 0) {
            both("start()", () -> vault.start(), () -> model.start());
            look(6);
            return;
        }
        int kind = random.nextInt(100);
        int flushes = profile == 3 ? 14 : 5;
        int deletes = profile == 4 ? 40 : 8;
        int series = profile == 5 ? 45 : 12;
        if ((kind -= series) < 0) {
            doSeries();
        } else if ((kind -= flushes) < 0) {
            maybeCut();
            both("flush()", () -> vault.flush(), () -> model.flush());
        } else if ((kind -= deletes) < 0) {
            doDelete();
        } else if ((kind -= 10) < 0) {
            doBulk();
        } else if ((kind -= 10) < 0) {
            doAsk();
        } else if ((kind -= 4) < 0) {
            both("sync()", () -> vault.sync(), () -> model.sync());
        } else if ((kind -= profile == 4 ? 1 : 4) < 0) {
            doCompact();
        } else if ((kind -= 3) < 0) {
            doRareThings();
        } else {
            doAppend();
        }
    }

    private void maybeCut() {
        if (random.nextInt(4) == 0) {
            int n = random.nextInt(5) - 1;
            both("cut(" + n + ")", () -> { vault.cut(n); return 0; }, () -> { model.cut(n); return 0; });
        }
    }

    private void doRareThings() {
        int kind = random.nextInt(profile >= 4 ? 11 : 12);
        if (kind < 4 && (profile != 4 || random.nextInt(8) == 0)) {
            long time = random.nextInt(3) == 0 ? someTime() : model.mem.horizon + random.nextInt(30) - 2;
            maybeCut();
            both("retain(" + time + ")", () -> vault.retain(time), () -> model.retain(time));
        } else if (kind < 7) {
            both("off()", () -> { vault.off(); return 0; }, () -> { model.off(); return 0; });
        } else if (kind < 9) {
            int n = random.nextInt(12) - 2;
            both("cut(" + n + ")", () -> { vault.cut(n); return 0; }, () -> { model.cut(n); return 0; });
        } else if (kind == 9) {
            both("start()", () -> vault.start(), () -> model.start());
        } else if (kind == 10) {
            int n = random.nextInt(40) - 5;
            both("end(" + n + ")", () -> { vault.end(n); return 0; }, () -> { model.end(n); return 0; });
        } else if (random.nextInt(12) == 0) {
            int b = random.nextInt(260);
            int j = random.nextInt(b + 10) - 2;
            both("format(" + b + ", " + j + ")", () -> { vault.format(b, j); return 0; }, () -> { model.format(b, j); return 0; });
        }
    }

    private int someSeries() {
        int n = model.mem.texts.size();
        return random.nextInt(40) == 0 ? random.nextInt(n + 3) - 1 : n == 0 ? 0 : random.nextInt(profile == 4 ? Math.min(n, 3) : n);
    }

    private long someTime() {
        switch (random.nextInt(8)) {
            case 0: return random.nextLong();
            case 1: return Model.MAX - random.nextInt(3) + 1;
            case 2: return -1;
            default: return random.nextInt(400);
        }
    }

    private long nextTime(int s) {
        long last = s >= 0 && s < model.mem.lasts.size() ? model.mem.lasts.get(s) : 0;
        long base = Math.max(last, random.nextInt(8) == 0 ? 0 : model.mem.horizon - 1);
        switch (random.nextInt(profile == 2 ? 40 : 400)) {
            case 0: return random.nextInt(20) == 0 ? someTime() : base + 1;
            case 1: return base + 1 + random.nextInt(100000);
            case 2: return base;
            case 3: return base + 500 + random.nextInt(30);
            case 4: return base + 4080 + random.nextInt(30);
            default: return base + 1 + random.nextInt(10);
        }
    }

    private long someValue() {
        switch (random.nextInt(profile == 2 ? 3 : 9)) {
            case 0: return random.nextLong();
            case 1: return random.nextLong() & 0xffff0000L;
            case 2: return random.nextBoolean() ? Long.MIN_VALUE : Long.MAX_VALUE;
            default: return random.nextInt(50) - 10;
        }
    }

    private void doAppend() {
        int s = someSeries();
        long time = nextTime(s);
        long value = someValue();
        both("append(" + s + ", " + time + ", " + value + ")", () -> vault.append(s, time, value), () -> model.append(s, time, value));
    }

    private void doBulk() {
        int s = someSeries();
        int n = random.nextInt(profile == 2 ? 300 : profile == 1 ? 60 : 12);
        long[] numbers = new long[2 * n];
        long time = s >= 0 && s < model.mem.lasts.size() ? Math.max(model.mem.lasts.get(s), model.mem.horizon - 1) : 0;
        for (int i = 0; i < n; i++) {
            time += 1 + random.nextInt(random.nextInt(20) == 0 ? 20000 : 9);
            numbers[2 * i] = random.nextInt(400) == 0 ? time - 60 : time;
            numbers[2 * i + 1] = someValue();
        }
        byte[] points = Tape.points(numbers);
        if (!tape(java.util.Arrays.copyOf(points, points.length + random.nextInt(16)))) {
            return;
        }
        if (random.nextInt(6) == 0) {
            maybeCut();
        }
        both("bulk(" + s + ") of " + n, () -> vault.bulk(s), () -> model.bulk(s));
    }

    private void doDelete() {
        int s = someSeries();
        long last = s >= 0 && s < model.mem.lasts.size() ? model.mem.lasts.get(s) : 0;
        long from;
        long to;
        int kind = random.nextInt(8);
        java.util.List<Model.Pt> seen = s >= 0 && s < model.mem.lasts.size() ? model.seenOf(s) : java.util.List.of();
        if (kind == 0) {
            from = someTime();
            to = someTime();
        } else if (kind == 1) {
            from = Long.MIN_VALUE;
            to = random.nextBoolean() ? Long.MAX_VALUE : last - random.nextInt(20);
        } else if (kind < 7 && !seen.isEmpty()) {
            from = seen.get(random.nextInt(seen.size())).t;
            to = from + (profile == 4 ? 0 : random.nextInt(25));
        } else {
            from = last - random.nextInt((int) Math.min(last + 3, 1000)) + 1;
            to = from + random.nextInt(25) - 1;
        }
        long f = from;
        long t = to;
        both("delete(" + s + ", " + f + ", " + t + ")", () -> vault.delete(s, f, t), () -> model.delete(s, f, t));
    }

    private void doCompact() {
        int n = model.mem.parcels.size();
        int k = n < 2 || random.nextInt(10) == 0 ? random.nextInt(n + 4) - 2 : random.nextInt(n - 1);
        maybeCut();
        both("compact(" + k + ")", () -> vault.compact(k), () -> model.compact(k));
    }

    private void doSeries() {
        StringBuilder text = new StringBuilder();
        int labels = 1 + random.nextInt(random.nextInt(10) == 0 ? 7 : 4);
        for (int i = 0; i < labels; i++) {
            text.append(i > 0 ? "," : "").append(pick(NAMES));
            if (random.nextInt(profile == 5 ? 2 : 30) == 0) {
                text.append("qwertyuiopasdfghjklzxcv", 0, random.nextInt(23));
            }
            text.append('=').append(pick(VALUES));
            if (random.nextInt(profile == 5 ? 2 : 30) == 0) {
                text.append("qwertyuiopasdfghjklzxcv", 0, random.nextInt(23));
            }
        }
        if (profile == 5 && random.nextBoolean()) {
            text.append(",n=").append(random.nextInt(10000));
        }
        mutate(text, 8);
        if (tape(Tape.bytes(text.toString()))) {
            both("series() of " + text, () -> vault.series(), () -> model.series());
        }
    }

    private String pick(String[] words) {
        return words[random.nextInt(words.length)];
    }

    private void mutate(StringBuilder text, int seldom) {
        if (random.nextInt(seldom) > 0) {
            return;
        }
        for (int i = random.nextInt(3); i >= 0 && text.length() > 0; i--) {
            int place = random.nextInt(text.length());
            String signs = "!^=\"(){},+-*/% 09az_\t\u00ff~";
            char c = signs.charAt(random.nextInt(signs.length()));
            switch (random.nextInt(3)) {
                case 0: text.setCharAt(place, c); break;
                case 1: text.deleteCharAt(place); break;
                default: text.insert(place, c); break;
            }
        }
    }

    private void doAsk() {
        StringBuilder text = new StringBuilder();
        String by = random.nextInt(3) == 0 ? null : names();
        exp(text, by, random.nextInt(4));
        mutate(text, 4);
        if (!tape(Tape.bytes(text.toString()))) {
            return;
        }
        long earliest = model.mem.horizon;
        long latest = 1 + earliest;
        for (long last : model.mem.lasts) {
            latest = Math.max(latest, last);
        }
        int n = random.nextInt(30) == 0 ? random.nextInt(70) - 2 : 1 + random.nextInt(random.nextInt(5) == 0 ? 64 : 6);
        long part = (latest - earliest) / Math.max(1, n);
        long from = random.nextInt(30) == 0 ? someTime() : earliest + (long) (random.nextDouble() * part);
        long width = random.nextInt(30) == 0 ? someTime() : 1 + (long) (random.nextDouble() * 2 * part);
        String asked = "ask(" + from + ", " + width + ", " + n + ") of " + text;
        both(asked, () -> vault.ask(from, width, n), () -> model.ask(from, width, n));
        lastWindows = Math.min(n, 64);
        same("fault(0)", () -> vault.fault(0), () -> model.fault(0));
        same("fault(1)", () -> vault.fault(1), () -> model.fault(1));
        for (int i = 0; i < 8; i++) {
            lookAtTable();
        }
    }

    private String names() {
        StringBuilder text = new StringBuilder();
        int n = 1 + random.nextInt(random.nextInt(12) == 0 ? 7 : 3);
        int first = random.nextInt(NAMES.length);
        for (int i = 0; i < n; i++) {
            text.append(i > 0 ? "," : "").append(NAMES[(first + i * 3) % NAMES.length]);
        }
        return text.toString();
    }

    private void exp(StringBuilder text, String by, int deep) {
        term(text, by, deep);
        for (int i = random.nextInt(3); i > 0; i--) {
            text.append(random.nextBoolean() ? " + " : "-");
            term(text, by, deep);
        }
    }

    private void term(StringBuilder text, String by, int deep) {
        factor(text, by, deep);
        for (int i = random.nextInt(4) - 2; i > 0; i--) {
            text.append("*/%".charAt(random.nextInt(3)));
            factor(text, by, deep);
        }
    }

    private void factor(StringBuilder text, String by, int deep) {
        int kind = random.nextInt(10);
        if (kind < 2) {
            text.append(random.nextInt(20) == 0 ? "9223372036854775807" : random.nextInt(20) == 0 ? "09223372036854775808" : random.nextInt(6));
        } else if (kind < 4 && deep > 0) {
            text.append("(((((((((", 0, 1 + random.nextInt(random.nextInt(6) == 0 ? 9 : 1));
            int opened = 0;
            while (opened < text.length() && text.charAt(text.length() - 1 - opened) == '(') {
                opened++;
            }
            exp(text, by, deep - 1);
            text.append(")))))))))", 0, Math.min(opened, 9));
        } else if (kind < 5) {
            text.append("---------", 0, 1 + random.nextInt(random.nextInt(8) == 0 ? 9 : 1));
            factor(text, by, deep - 1);
        } else {
            text.append(pick(FUNCS));
            if (by != null && random.nextInt(4) > 0) {
                text.append(" by (").append(random.nextInt(25) == 0 ? names() : by).append(") ");
            }
            text.append("({");
            for (int i = random.nextInt(6) - 3; i > 0; i--) {
                text.append(pick(NAMES)).append(pick(new String[] {"=", "!=", "^=", "!^"})).append('"');
                text.append(random.nextInt(4) == 0 ? "" : pick(VALUES)).append('"').append(i > 1 ? "," : "");
            }
            text.append("})");
        }
    }

    private void lookAtTable() {
        int rows = model.table == null ? 0 : model.table.rows.size();
        int row = random.nextInt(12) == 0 ? random.nextInt(rows + 2) - 1 : random.nextInt(Math.max(rows, 1));
        int window = random.nextInt(12) == 0 ? random.nextInt(66) - 1 : random.nextInt(Math.max(lastWindows, 1));
        int name = random.nextInt(Math.max(model.names(), 0) + 2) - 1;
        int place = random.nextInt(8) - 1;
        switch (random.nextInt(8)) {
            case 0:
                same("names()", () -> vault.names(), () -> model.names());
                break;
            case 1:
            case 2:
                same("text(" + row + ", " + name + ", " + place + ")", () -> vault.text(row, name, place), () -> model.text(row, name, place));
                break;
            case 3:
            case 4:
                same("isThere(" + row + ", " + window + ")", () -> vault.isThere(row, window), () -> model.isThere(row, window));
                break;
            default:
                same("cell(" + row + ", " + window + ")", () -> vault.cell(row, window), () -> model.cell(row, window));
                break;
        }
    }

    private void lookAtCounts() {
        for (int what = 0; what < 9; what++) {
            int w = what;
            same("count(" + what + ")", () -> vault.count(w), () -> model.count(w));
        }
    }

    private void look(int times) {
        for (int i = 0; i < times; i++) {
            lookOnce();
        }
    }

    private void lookOnce() {
        int what = random.nextInt(random.nextInt(12) == 0 ? 12 : 9) - (random.nextInt(20) == 0 ? 1 : 0);
        int k = random.nextInt(model.mem.parcels.size() + 1) - (random.nextInt(12) == 0 ? 1 : 0);
        int s = someSeries();
        int place = random.nextInt(60) - 1;
        switch (random.nextInt(10)) {
            case 0:
            case 1:
            case 2:
                same("count(" + what + ")", () -> vault.count(what), () -> model.count(what));
                break;
            case 3:
            case 4:
                same("parcel(" + k + ", " + what % 5 + ")", () -> vault.parcel(k, what % 5), () -> model.parcel(k, what % 5));
                break;
            case 5:
                same("last(" + s + ")", () -> vault.last(s), () -> model.last(s));
                break;
            case 6:
                same("letter(" + s + ", " + place + ")", () -> vault.letter(s, place), () -> model.letter(s, place));
                break;
            case 7:
                same("written()", () -> vault.written(), () -> model.written());
                break;
            case 8:
                same("fault(" + what % 3 + ")", () -> vault.fault(what % 3), () -> model.fault(what % 3));
                break;
            default:
                lookAtTable();
                break;
        }
    }
}
