/** A vault with shorter words for what tests do most. */
final class Probe {
    static final Class<IllegalStateException> STATE = IllegalStateException.class;
    static final Class<IndexOutOfBoundsException> INDEX = IndexOutOfBoundsException.class;
    static final Class<IllegalArgumentException> ARGUMENT = IllegalArgumentException.class;
    static final Class<UnsupportedOperationException> UNSUPPORTED = UnsupportedOperationException.class;

    final Vault vault = new Vault();

    int series(String text) {
        vault.end(0);
        Tape.put(vault, text);
        return vault.series();
    }

    int bulk(int s, long... numbers) {
        vault.end(0);
        Tape.put(vault, Tape.points(numbers));
        return vault.bulk(s);
    }

    /** n points with values 0 from this time on, one after another. */
    int bulkOf(int s, long from, int n) {
        long[] numbers = new long[2 * n];
        for (int i = 0; i < n; i++) {
            numbers[2 * i] = from + i;
        }
        return bulk(s, numbers);
    }

    int ask(String text, long from, long width, int n) {
        vault.end(0);
        Tape.put(vault, text);
        return vault.ask(from, width, n);
    }

    int tapeLength() {
        int length = vault.feed(0, 0, 0, 0, 0) - 20;
        vault.end(length);
        return length;
    }

    String fault() {
        return vault.fault(0) + " at " + vault.fault(1);
    }

    String textOf(int s) {
        StringBuilder text = new StringBuilder();
        int letter = vault.letter(s, 0);
        while (letter != SeriesVault.NONE) {
            text.append((char) letter);
            letter = vault.letter(s, text.length());
        }
        return text.toString();
    }

    /** All of the table: a row is its texts, then its cells, a . for nothing. */
    String table(int rows, int windows) {
        StringBuilder all = new StringBuilder();
        int names = vault.names();
        for (int row = 0; row < rows; row++) {
            all.append(row > 0 ? "; " : "");
            for (int k = 0; k < names; k++) {
                all.append(rowText(row, k)).append('|');
            }
            for (int w = 0; w < windows; w++) {
                all.append(' ').append(vault.isThere(row, w) ? String.valueOf(vault.cell(row, w)) : ".");
            }
        }
        return all.toString();
    }

    String rowText(int row, int k) {
        StringBuilder text = new StringBuilder();
        int letter = vault.text(row, k, 0);
        while (letter != SeriesVault.NONE) {
            text.append((char) letter);
            letter = vault.text(row, k, text.length());
        }
        return text.toString();
    }

    String asked(String text, long from, long width, int n) {
        int rows = ask(text, from, width, n);
        return rows == SeriesVault.NONE ? "fault " + fault() : table(rows, n);
    }

    /** Counts 0 to 8, one behind the other. */
    String counts() {
        StringBuilder all = new StringBuilder();
        for (int what = 0; what <= 8; what++) {
            all.append(what > 0 ? " " : "").append(vault.count(what));
        }
        return all.toString();
    }

    String parcel(int k) {
        StringBuilder all = new StringBuilder();
        for (int what = 0; what <= 4; what++) {
            all.append(what > 0 ? " " : "").append(vault.parcel(k, what));
        }
        return all.toString();
    }

    /** All that can be read, but for the bytes of the tape: two such texts differ if something changed. */
    String everything() {
        StringBuilder all = new StringBuilder(counts());
        all.append(" written ").append(vault.written()).append(" fault ").append(fault()).append(" tape ").append(tapeLength());
        for (int k = 0; k < vault.count(2); k++) {
            all.append(" parcel ").append(parcel(k));
        }
        for (int s = 0; s < vault.count(0); s++) {
            all.append(' ').append(textOf(s)).append(" to ").append(vault.last(s));
        }
        return all.append(" table ").append(wholeTable()).toString();
    }

    /** The table, with as many rows and windows as it has. */
    private String wholeTable() {
        int names = vault.names();
        int rows = 0;
        while (names != SeriesVault.NONE && isCell(rows, 0)) {
            rows++;
        }
        int windows = 0;
        while (rows > 0 && isCell(0, windows)) {
            windows++;
        }
        return names + " " + rows + " " + windows + " " + table(rows, windows);
    }

    private boolean isCell(int row, int window) {
        try {
            vault.isThere(row, window);
            return true;
        } catch (IndexOutOfBoundsException e) {
            return false;
        }
    }
}
