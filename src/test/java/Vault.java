/**
 * A vault that counts its calls. Behind the 512th the document promises nothing, so a test that goes
 * further would ask for what is free: it ends with an error.
 */
final class Vault {
    static final int CALLS = 512;

    private final SeriesVault inner = new SeriesVault();
    private int calls;

    int callsLeft() {
        return CALLS - calls;
    }

    private SeriesVault called() {
        if (calls == CALLS) {
            throw new AssertionError("a test made more than " + CALLS + " calls on one object");
        }
        calls++;
        return inner;
    }

    int feed(int a, int b, int c, int d, int e) {
        return called().feed(a, b, c, d, e);
    }

    void end(int n) {
        called().end(n);
    }

    void format(int blocks, int journal) {
        called().format(blocks, journal);
    }

    int series() {
        return called().series();
    }

    int fault(int what) {
        return called().fault(what);
    }

    int letter(int s, int k) {
        return called().letter(s, k);
    }

    int append(int s, long time, long value) {
        return called().append(s, time, value);
    }

    int bulk(int s) {
        return called().bulk(s);
    }

    int delete(int s, long from, long to) {
        return called().delete(s, from, to);
    }

    boolean sync() {
        return called().sync();
    }

    int flush() {
        return called().flush();
    }

    int compact(int k) {
        return called().compact(k);
    }

    int retain(long time) {
        return called().retain(time);
    }

    int ask(long from, long width, int n) {
        return called().ask(from, width, n);
    }

    int names() {
        return called().names();
    }

    int text(int row, int k, int i) {
        return called().text(row, k, i);
    }

    boolean isThere(int row, int window) {
        return called().isThere(row, window);
    }

    long cell(int row, int window) {
        return called().cell(row, window);
    }

    int count(int what) {
        return called().count(what);
    }

    int parcel(int k, int what) {
        return called().parcel(k, what);
    }

    long last(int s) {
        return called().last(s);
    }

    int written() {
        return called().written();
    }

    void cut(int n) {
        called().cut(n);
    }

    void off() {
        called().off();
    }

    int start() {
        return called().start();
    }
}
