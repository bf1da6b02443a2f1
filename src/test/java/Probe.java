/** A vault with shorter words for what tests do most. */
final class Probe {
    static final Class<IllegalStateException> STATE = IllegalStateException.class;
    static final Class<IndexOutOfBoundsException> INDEX = IndexOutOfBoundsException.class;
    static final Class<IllegalArgumentException> ARGUMENT = IllegalArgumentException.class;
    static final Class<UnsupportedOperationException> UNSUPPORTED = UnsupportedOperationException.class;

    final SeriesVault vault = new SeriesVault();

    int series(String text) {
        vault.end(0);
        Tape.put(vault, text);
        return vault.series();
    }

    int bulk(int s, long... numbers) {
        vault.end(0);
        Tape.put(vault, Tape.points(numbers));
        return vault.bulk(s);
    }

    /** n points with values 0 from this time on, one after another. */
    int bulkOf(int s, long from, int n) {
        long[] numbers = new long[2 * n];
        for (int i = 0; i < n; i++) {
            numbers[2 * i] = from + i;
        }
        return bulk(s, numbers);
    }

    int ask(String text, long from, long width, int n) {
        vault.end(0);
        Tape.put(vault, text);
        return vault.ask(from, width, n);
    }

    int tapeLength() {
        int length = vault.feed(0, 0, 0, 0, 0) - 20;
        vault.end(length);
        return length;
    }

    String fault() {
        return vault.fault(0) + " at " + vault.fault(1);
    }

    String textOf(int s) {
        StringBuilder text = new StringBuilder();
        for (int k = 0; vault.letter(s, k) != SeriesVault.NONE; k++) {
            text.append((char) vault.letter(s, k));
        }
        return text.toString();
    }

    /** All of the table: a row is its texts, then its cells, a . for nothing. */
    String table(int rows, int windows) {
        StringBuilder all = new StringBuilder();
        for (int row = 0; row < rows; row++) {
            all.append(row > 0 ? "; " : "");
            for (int k = 0; k < vault.names(); k++) {
                for (int i = 0; vault.text(row, k, i) != SeriesVault.NONE; i++) {
                    all.append((char) vault.text(row, k, i));
                }
                all.append('|');
            }
            for (int w = 0; w < windows; w++) {
                all.append(' ').append(vault.isThere(row, w) ? String.valueOf(vault.cell(row, w)) : ".");
            }
        }
        return all.toString();
    }

    String asked(String text, long from, long width, int n) {
        int rows = ask(text, from, width, n);
        return rows == SeriesVault.NONE ? "fault " + fault() : table(rows, n);
    }

    /** Counts 0 to 8, one behind the other. */
    String counts() {
        StringBuilder all = new StringBuilder();
        for (int what = 0; what <= 8; what++) {
            all.append(what > 0 ? " " : "").append(vault.count(what));
        }
        return all.toString();
    }

    String parcel(int k) {
        StringBuilder all = new StringBuilder();
        for (int what = 0; what <= 4; what++) {
            all.append(what > 0 ? " " : "").append(vault.parcel(k, what));
        }
        return all.toString();
    }
}
