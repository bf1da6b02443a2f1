import java.util.ArrayList;
import java.util.Arrays;

/** Points of many series on a disk whose power may go at any write, and questions about them. */
public final class SeriesVault {
    public static final int NONE = -1;

    private static final int TAPE_LIMIT = 65536;
    private static final int FEED_BYTES = 20;
    private static final int POINT_BYTES = 16;
    private static final long LATEST_TIME = 1099511627775L;
    private static final int SERIES_LIMIT = 256;
    private static final int LABEL_LIMIT = 6;
    private static final int WORD_LIMIT = 24;
    private static final int PARCEL_LIMIT = 32;
    private static final int SCAR_LIMIT = 64;
    private static final int WINDOW_LIMIT = 64;
    private static final int MANIFEST_BLOCKS = 2;
    private static final int BLOCK_UNITS = 126;
    private static final int BLOCK_BITS = 32256;
    private static final int UNIT_BYTES = 32;

    private byte[] tape;
    private int tapeLength;
    private int faultCode;
    private int faultPlace;
    private int diskBlocks;
    private boolean powered;
    private int cutLeft;
    private int writes;
    private final Journal journal;
    private final Points head;
    private final Points gathered;
    private final Shelf now;
    private final Shelf saved;
    private final Series[] known;
    private final SeriesReader reader;
    private final Question question;
    private final Answers answers;
    private boolean hasTable;

    public SeriesVault() {
        tape = new byte[256];
        journal = new Journal();
        head = new Points();
        gathered = new Points();
        now = new Shelf();
        saved = new Shelf();
        known = new Series[SERIES_LIMIT];
        reader = new SeriesReader();
        question = new Question();
        answers = new Answers();
        makeDisk(64, 8);
    }

    // ---- the tape

    public int feed(int a, int b, int c, int d, int e) throws UnsupportedOperationException {
        if (tapeLength + FEED_BYTES > TAPE_LIMIT) {
            throw new UnsupportedOperationException();
        }
        if (tapeLength + FEED_BYTES > tape.length) {
            tape = Arrays.copyOf(tape, 2 * tape.length);
        }
        putOnTape(a);
        putOnTape(b);
        putOnTape(c);
        putOnTape(d);
        putOnTape(e);
        return tapeLength;
    }

    private void putOnTape(int number) {
        for (int shift = 24; shift >= 0; shift -= 8) {
            tape[tapeLength] = (byte) (number >> shift);
            tapeLength++;
        }
    }

    public void end(int n) throws IllegalArgumentException {
        if (n < 0 || n > tapeLength) {
            throw new IllegalArgumentException();
        }
        tapeLength = n;
    }

    private long longOnTape(int place) {
        long number = 0;
        for (int i = 0; i < 8; i++) {
            number = (number << 8) | (tape[place + i] & 255);
        }
        return number;
    }

    public int fault(int what) throws IndexOutOfBoundsException {
        if (what < 0 || what > 1) {
            throw new IndexOutOfBoundsException();
        }
        return what == 0 ? faultCode : faultPlace;
    }

    private void setFault(int code, int place) {
        faultCode = code;
        faultPlace = place;
    }

    // ---- the disk and its power

    public void format(int blocks, int journal) throws IllegalArgumentException {
        if (blocks < 16 || blocks > 256 || journal < 2 || journal > blocks - 8) {
            throw new IllegalArgumentException();
        }
        makeDisk(blocks, journal);
    }

    private void makeDisk(int blocks, int journalBlocks) {
        diskBlocks = blocks;
        powered = true;
        cutLeft = NONE;
        writes = 0;
        hasTable = false;
        journal.reset(journalBlocks);
        head.clear();
        now.clear();
        saved.clear();
    }

    public int written() {
        return writes;
    }

    public void cut(int n) throws IllegalStateException, IllegalArgumentException {
        checkPower();
        if (n < NONE) {
            throw new IllegalArgumentException();
        }
        cutLeft = n;
    }

    public void off() throws IllegalStateException {
        checkPower();
        powered = false;
    }

    private void checkPower() {
        if (!powered) {
            throw new IllegalStateException();
        }
    }

    private void checkSeries(int s) {
        if (s < 0 || s >= now.seriesCount) {
            throw new IndexOutOfBoundsException();
        }
    }

    private void writeBlock() {
        if (cutLeft == 0) {
            powered = false;
            cutLeft = NONE;
            throw new IllegalStateException();
        }
        if (cutLeft > 0) {
            cutLeft--;
        }
        writes++;
    }

    private void writeBlocks(int n) {
        for (int i = 0; i < n; i++) {
            writeBlock();
        }
    }

    private int freeBlocks() {
        return diskBlocks - MANIFEST_BLOCKS - journal.blockLimit - now.blocksInUse();
    }

    public int start() throws IllegalStateException {
        if (powered) {
            throw new IllegalStateException();
        }
        powered = true;
        now.takeParcels(saved);
        now.takeCatalog(saved);
        head.clear();
        journal.forgetUnkept();
        for (int i = 0; i < journal.size; i++) {
            doAgain(i);
        }
        return journal.size;
    }

    private void doAgain(int i) {
        int owner = journal.owners[i];
        switch (journal.kinds[i]) {
            case Journal.NEW_SERIES:
                now.addSeries();
                break;
            case Journal.POINT:
                comePoint(owner, journal.firsts[i], journal.seconds[i]);
                break;
            default:
                letGo(owner, journal.firsts[i], journal.seconds[i]);
                break;
        }
    }

    // ---- the journal

    private void writeRecord(int kind, int owner, int units, long first, long second) {
        if (!journal.fitsInBlock(units)) {
            writeJournalBlock();
            journal.beginNextBlock();
        }
        journal.add(kind, owner, units, first, second);
    }

    private boolean writeJournalBlock() {
        if (!journal.changed) {
            return false;
        }
        writeBlock();
        journal.keepAll();
        return true;
    }

    public boolean sync() throws IllegalStateException {
        checkPower();
        return writeJournalBlock();
    }

    // ---- series and points

    public int series() throws IllegalStateException, UnsupportedOperationException {
        checkPower();
        if (!reader.read(tape, tapeLength)) {
            tapeLength = 0;
            setFault(reader.faultCode, reader.faultPlace);
            return NONE;
        }
        Series read = reader.made(tape);
        int number = numberOf(read);
        if (number == now.seriesCount) {
            addNewSeries(read);
        }
        tapeLength = 0;
        setFault(0, 0);
        return number;
    }

    private int numberOf(Series wanted) {
        for (int s = 0; s < now.seriesCount; s++) {
            if (known[s].text.same(wanted.text)) {
                return s;
            }
        }
        return now.seriesCount;
    }

    private void addNewSeries(Series made) {
        int number = now.seriesCount;
        if (number >= SERIES_LIMIT || !journal.hasRoom(made.units())) {
            throw new UnsupportedOperationException();
        }
        writeRecord(Journal.NEW_SERIES, number, made.units(), 0, 0);
        known[number] = made;
        now.addSeries();
    }

    public int letter(int s, int k) throws IllegalStateException, IndexOutOfBoundsException {
        checkPower();
        checkSeries(s);
        return known[s].text.at(k);
    }

    public long last(int s) throws IllegalStateException, IndexOutOfBoundsException {
        checkPower();
        checkSeries(s);
        return now.lasts[s];
    }

    public int append(int s, long time, long value)
            throws IllegalStateException, IndexOutOfBoundsException, IllegalArgumentException, UnsupportedOperationException {
        checkPower();
        checkSeries(s);
        if (!mayCome(s, time)) {
            throw new IllegalArgumentException();
        }
        if (!journal.hasRoom(1)) {
            throw new UnsupportedOperationException();
        }
        addPoint(s, time, value);
        return head.size;
    }

    private boolean mayCome(int s, long time) {
        return isTime(time) && time > now.lasts[s] && time >= now.horizon;
    }

    private static boolean isTime(long time) {
        return time >= 0 && time <= LATEST_TIME;
    }

    private void addPoint(int s, long time, long value) {
        writeRecord(Journal.POINT, s, 1, time, value);
        comePoint(s, time, value);
    }

    private void comePoint(int s, long time, long value) {
        now.lasts[s] = time;
        if (time >= now.horizon) {
            head.add(s, time, value);
        }
    }

    public int bulk(int s) throws IllegalStateException, IndexOutOfBoundsException {
        checkPower();
        checkSeries(s);
        int points = tapeLength / POINT_BYTES;
        // Empty before the points come, as it is to be empty even if the power goes between two of them.
        tapeLength = 0;
        for (int i = 0; i < points; i++) {
            long time = longOnTape(i * POINT_BYTES);
            if (!mayCome(s, time) || !journal.hasRoom(1)) {
                return i;
            }
            addPoint(s, time, longOnTape(i * POINT_BYTES + 8));
        }
        return points;
    }

    public int delete(int s, long from, long to)
            throws IllegalStateException, IndexOutOfBoundsException, IllegalArgumentException, UnsupportedOperationException {
        checkPower();
        checkSeries(s);
        if (from > to) {
            throw new IllegalArgumentException();
        }
        int packed = now.countSeen(s, from, to);
        int gone = packed + head.countWithin(s, from, to);
        if (gone == 0) {
            return 0;
        }
        if (packed > 0 && now.scarCount >= SCAR_LIMIT || !journal.hasRoom(1)) {
            throw new UnsupportedOperationException();
        }
        writeRecord(Journal.DELETE, s, 1, from, to);
        letGo(s, from, to);
        return gone;
    }

    private void letGo(int s, long from, long to) {
        if (now.countSeen(s, from, to) > 0) {
            now.addScar(s, from, to);
        }
        head.dropWithin(s, from, to);
    }

    // ---- parcels

    public int flush() throws IllegalStateException, UnsupportedOperationException {
        checkPower();
        if (journal.size == 0) {
            return 0;
        }
        Parcel made = packed(head);
        int catalog = catalogBlocks();
        int needed = blocksOf(made) + catalog;
        if (made != null && now.parcelCount >= PARCEL_LIMIT || needed > freeBlocks()) {
            throw new UnsupportedOperationException();
        }
        writeBlocks(needed + 1);
        now.addParcel(made);
        now.catalogBlocks = catalog;
        saved.takeParcels(now);
        saved.takeCatalog(now);
        head.clear();
        journal.clear();
        return needed + 1;
    }

    private Parcel packed(Points points) {
        return points.size == 0 ? null : new Parcel(points, now.seriesCount);
    }

    private static int blocksOf(Parcel parcel) {
        return parcel == null ? 0 : parcel.blocks;
    }

    private int catalogBlocks() {
        int blocks = 0;
        int room = 0;
        for (int s = 0; s < now.seriesCount; s++) {
            int units = known[s].units();
            if (units > room) {
                blocks++;
                room = BLOCK_UNITS;
            }
            room -= units;
        }
        return blocks;
    }

    public int compact(int k) throws IllegalStateException, IndexOutOfBoundsException, UnsupportedOperationException {
        checkPower();
        if (k < 0 || k >= now.parcelCount - 1) {
            throw new IndexOutOfBoundsException();
        }
        gathered.clear();
        now.gatherSeen(now.parcels[k], gathered);
        now.gatherSeen(now.parcels[k + 1], gathered);
        Parcel made = packed(gathered);
        if (blocksOf(made) > freeBlocks()) {
            throw new UnsupportedOperationException();
        }
        int before = writes;
        writeJournalBlock();
        writeBlocks(blocksOf(made) + 1);
        now.putTogether(k, made);
        keepManifest();
        return writes - before;
    }

    public int retain(long time) throws IllegalStateException, IllegalArgumentException {
        checkPower();
        if (!isTime(time) || time < now.horizon) {
            throw new IllegalArgumentException();
        }
        if (time == now.horizon) {
            return 0;
        }
        int gone = now.countSeenBelow(time) + head.countBelow(time);
        writeJournalBlock();
        writeBlock();
        now.moveHorizon(time);
        head.dropBelow(time);
        keepManifest();
        return gone;
    }

    private void keepManifest() {
        now.endScars();
        saved.takeParcels(now);
    }

    public int count(int what) throws IllegalStateException, IllegalArgumentException {
        checkPower();
        switch (what) {
            case 0:
                return now.seriesCount;
            case 1:
                return head.size;
            case 2:
                return now.parcelCount;
            case 3:
                return now.scarCount;
            case 4:
                return freeBlocks();
            case 5:
                return journal.units;
            case 6:
                return journal.size;
            case 7:
                return journal.kept;
            case 8:
                return now.countAllSeen() + head.size;
            default:
                throw new IllegalArgumentException();
        }
    }

    public int parcel(int k, int what) throws IllegalStateException, IndexOutOfBoundsException, IllegalArgumentException {
        checkPower();
        if (k < 0 || k >= now.parcelCount) {
            throw new IndexOutOfBoundsException();
        }
        Parcel asked = now.parcels[k];
        switch (what) {
            case 0:
                return asked.size;
            case 1:
                return now.countSeenOf(asked);
            case 2:
                return asked.chunks;
            case 3:
                return asked.bits;
            case 4:
                return asked.blocks;
            default:
                throw new IllegalArgumentException();
        }
    }

    // ---- questions

    public int ask(long from, long width, int n) throws IllegalStateException, IllegalArgumentException {
        checkPower();
        if (!isTime(from) || width < 1 || width > LATEST_TIME || n < 1 || n > WINDOW_LIMIT) {
            throw new IllegalArgumentException();
        }
        boolean clean = question.read(tape, tapeLength);
        tapeLength = 0;
        hasTable = false;
        if (!clean) {
            setFault(question.faultCode, question.faultPlace);
            return NONE;
        }
        int wrongPlace = answers.work(question, known, now, head, from, width, n);
        if (wrongPlace != NONE) {
            setFault(5, wrongPlace);
            return NONE;
        }
        setFault(0, 0);
        hasTable = true;
        return answers.table().rowCount;
    }

    public int names() {
        return hasTable ? answers.table().nameCount : NONE;
    }

    public int text(int row, int k, int i) throws IndexOutOfBoundsException {
        checkRow(row);
        Table table = answers.table();
        return k < 0 || k >= table.nameCount ? NONE : table.rowText(row, k).at(i);
    }

    public boolean isThere(int row, int window) throws IndexOutOfBoundsException {
        checkCell(row, window);
        return answers.table().has(row, window);
    }

    public long cell(int row, int window) throws IndexOutOfBoundsException {
        checkCell(row, window);
        Table table = answers.table();
        return table.has(row, window) ? table.numberAt(row, window) : 0;
    }

    private void checkRow(int row) {
        if (!hasTable || row < 0 || row >= answers.table().rowCount) {
            throw new IndexOutOfBoundsException();
        }
    }

    private void checkCell(int row, int window) {
        checkRow(row);
        if (window < 0 || window >= answers.table().windows) {
            throw new IndexOutOfBoundsException();
        }
    }

    /** Bytes that are never changed, compared byte by byte. */
    private static final class Word {
        private final byte[] bytes;

        Word(byte[] source, int from, int to) {
            bytes = Arrays.copyOfRange(source, from, to);
        }

        int at(int k) {
            return k < 0 || k >= bytes.length ? NONE : bytes[k] & 255;
        }

        int compare(Word other) {
            int shorter = Math.min(bytes.length, other.bytes.length);
            for (int i = 0; i < shorter; i++) {
                if (bytes[i] != other.bytes[i]) {
                    return (bytes[i] & 255) - (other.bytes[i] & 255);
                }
            }
            return bytes.length - other.bytes.length;
        }

        boolean same(Word other) {
            if (bytes.length != other.bytes.length) {
                return false;
            }
            for (int i = 0; i < bytes.length; i++) {
                if (bytes[i] != other.bytes[i]) {
                    return false;
                }
            }
            return true;
        }

        boolean beginsWith(Word start) {
            if (start.bytes.length > bytes.length) {
                return false;
            }
            for (int i = 0; i < start.bytes.length; i++) {
                if (bytes[i] != start.bytes[i]) {
                    return false;
                }
            }
            return true;
        }

        boolean spells(String letters) {
            if (letters.length() != bytes.length) {
                return false;
            }
            for (int i = 0; i < bytes.length; i++) {
                if (bytes[i] != letters.charAt(i)) {
                    return false;
                }
            }
            return true;
        }
    }

    /** The labels of a series, by rising names, and its text. */
    private static final class Series {
        private final Word[] names;
        private final Word[] values;
        private final Word nothing;
        private final Word text;

        Series(Word[] names, Word[] values) {
            this.names = names;
            this.values = values;
            byte[] written = joined(names, values);
            text = new Word(written, 0, written.length);
            nothing = new Word(written, 0, 0);
        }

        private static byte[] joined(Word[] names, Word[] values) {
            int length = 0;
            for (int i = 0; i < names.length; i++) {
                length += names[i].bytes.length + values[i].bytes.length + (i == 0 ? 1 : 2);
            }
            byte[] row = new byte[length];
            int end = 0;
            for (int i = 0; i < names.length; i++) {
                if (i > 0) {
                    row[end] = ',';
                    end++;
                }
                end = copyWord(names[i], row, end);
                row[end] = '=';
                end = copyWord(values[i], row, end + 1);
            }
            return row;
        }

        private static int copyWord(Word word, byte[] row, int place) {
            System.arraycopy(word.bytes, 0, row, place, word.bytes.length);
            return place + word.bytes.length;
        }

        int units() {
            return 1 + (text.bytes.length + UNIT_BYTES - 1) / UNIT_BYTES;
        }

        Word valueOf(Word name) {
            for (int i = 0; i < names.length; i++) {
                if (names[i].same(name)) {
                    return values[i];
                }
            }
            return nothing;
        }
    }

    /** Reads the text of a series from the tape, its labels in any order. */
    private static final class SeriesReader {
        private final int[] nameStarts;
        private final int[] nameEnds;
        private final int[] valueEnds;
        private int labels;
        private int faultCode;
        private int faultPlace;

        SeriesReader() {
            nameStarts = new int[LABEL_LIMIT];
            nameEnds = new int[LABEL_LIMIT];
            valueEnds = new int[LABEL_LIMIT];
        }

        boolean read(byte[] tape, int length) {
            labels = 0;
            int place = 0;
            // A seventh label is a fault, so that more rounds than this never come.
            for (int i = 0; i <= LABEL_LIMIT; i++) {
                place = readLabel(tape, length, place);
                if (place == NONE) {
                    return false;
                }
                if (place == length) {
                    return true;
                }
                if (tape[place] != ',') {
                    refuse(7, place);
                    return false;
                }
                place++;
            }
            return false;
        }

        private int readLabel(byte[] tape, int length, int start) {
            int nameEnd = wordEnd(tape, length, start);
            if (nameEnd == start || nameEnd == length || tape[nameEnd] != '=') {
                return refuse(7, nameEnd);
            }
            if (labels == LABEL_LIMIT || isThereAlready(tape, start, nameEnd)) {
                return refuse(8, start);
            }
            int valueEnd = wordEnd(tape, length, nameEnd + 1);
            if (valueEnd == nameEnd + 1) {
                return refuse(7, valueEnd);
            }
            nameStarts[labels] = start;
            nameEnds[labels] = nameEnd;
            valueEnds[labels] = valueEnd;
            labels++;
            return valueEnd;
        }

        private static int wordEnd(byte[] tape, int length, int start) {
            int bound = Math.min(length, start + WORD_LIMIT);
            int end = start;
            while (end < bound && isOfWord(tape[end])) {
                end++;
            }
            return end;
        }

        private static boolean isOfWord(int letter) {
            switch (letter) {
                case '"':
                case '=':
                case ',':
                case '(':
                case ')':
                case '{':
                case '}':
                    return false;
                default:
                    return letter >= 33 && letter <= 126;
            }
        }

        private boolean isThereAlready(byte[] tape, int start, int end) {
            for (int i = 0; i < labels; i++) {
                if (sameBytes(tape, nameStarts[i], nameEnds[i], start, end)) {
                    return true;
                }
            }
            return false;
        }

        private static boolean sameBytes(byte[] tape, int start, int end, int otherStart, int otherEnd) {
            if (end - start != otherEnd - otherStart) {
                return false;
            }
            for (int i = 0; i < end - start; i++) {
                if (tape[start + i] != tape[otherStart + i]) {
                    return false;
                }
            }
            return true;
        }

        private int refuse(int code, int place) {
            faultCode = code;
            faultPlace = place;
            return NONE;
        }

        Series made(byte[] tape) {
            Word[] names = new Word[labels];
            Word[] values = new Word[labels];
            for (int i = 0; i < labels; i++) {
                Word name = new Word(tape, nameStarts[i], nameEnds[i]);
                int place = i;
                while (place > 0 && names[place - 1].compare(name) > 0) {
                    names[place] = names[place - 1];
                    values[place] = values[place - 1];
                    place--;
                }
                names[place] = name;
                values[place] = new Word(tape, nameEnds[i] + 1, valueEnds[i]);
            }
            return new Series(names, values);
        }
    }

    /** Points in the order in which they came. */
    private static final class Points {
        private int[] owners;
        private long[] times;
        private long[] values;
        private int size;

        Points() {
            owners = new int[32];
            times = new long[32];
            values = new long[32];
        }

        void clear() {
            size = 0;
        }

        void add(int owner, long time, long value) {
            if (size == owners.length) {
                owners = Arrays.copyOf(owners, 2 * size);
                times = Arrays.copyOf(times, 2 * size);
                values = Arrays.copyOf(values, 2 * size);
            }
            set(size, owner, time, value);
            size++;
        }

        private void set(int i, int owner, long time, long value) {
            owners[i] = owner;
            times[i] = time;
            values[i] = value;
        }

        private boolean isWithin(int i, int owner, long from, long to) {
            return owners[i] == owner && times[i] >= from && times[i] <= to;
        }

        int countWithin(int owner, long from, long to) {
            int found = 0;
            for (int i = 0; i < size; i++) {
                if (isWithin(i, owner, from, to)) {
                    found++;
                }
            }
            return found;
        }

        void dropWithin(int owner, long from, long to) {
            int stay = 0;
            for (int i = 0; i < size; i++) {
                if (!isWithin(i, owner, from, to)) {
                    set(stay, owners[i], times[i], values[i]);
                    stay++;
                }
            }
            size = stay;
        }

        int countBelow(long time) {
            int found = 0;
            for (int i = 0; i < size; i++) {
                if (times[i] < time) {
                    found++;
                }
            }
            return found;
        }

        void dropBelow(long time) {
            int stay = 0;
            for (int i = 0; i < size; i++) {
                if (times[i] >= time) {
                    set(stay, owners[i], times[i], values[i]);
                    stay++;
                }
            }
            size = stay;
        }
    }

    /** Packed points, by series and rising times; never changed once made. */
    private static final class Parcel {
        private final int[] owners;
        private final long[] times;
        private final long[] values;
        private final int size;
        private final int chunks;
        private final int bits;
        private final int blocks;
        private final long newest;

        Parcel(Points points, int seriesCount) {
            size = points.size;
            owners = new int[size];
            times = new long[size];
            values = new long[size];
            int[] places = chunkPlaces(points, seriesCount);
            for (int i = 0; i < size; i++) {
                int owner = points.owners[i];
                int place = places[owner];
                owners[place] = owner;
                times[place] = points.times[i];
                values[place] = points.values[i];
                places[owner]++;
            }
            chunks = countChunks(owners);
            bits = 64 * chunks + bitsOfChunks(owners, times, values);
            blocks = (bits + BLOCK_BITS - 1) / BLOCK_BITS;
            newest = greatest(times);
        }

        private static int[] chunkPlaces(Points points, int seriesCount) {
            int[] places = new int[seriesCount + 1];
            for (int i = 0; i < points.size; i++) {
                places[points.owners[i] + 1]++;
            }
            for (int s = 0; s < seriesCount; s++) {
                places[s + 1] += places[s];
            }
            return places;
        }

        private static int countChunks(int[] owners) {
            int found = 0;
            for (int i = 0; i < owners.length; i++) {
                if (i == 0 || owners[i] != owners[i - 1]) {
                    found++;
                }
            }
            return found;
        }

        private static long greatest(long[] times) {
            long found = NONE;
            for (int i = 0; i < times.length; i++) {
                found = Math.max(found, times[i]);
            }
            return found;
        }

        private static int bitsOfChunks(int[] owners, long[] times, long[] values) {
            int sum = 0;
            long step = 0;
            int frameAbove = NONE;
            int frameLength = 0;
            for (int i = 0; i < owners.length; i++) {
                if (i == 0 || owners[i] != owners[i - 1]) {
                    sum += 40 + 64;
                    step = 0;
                    frameAbove = NONE;
                    continue;
                }
                long stepBefore = step;
                step = times[i] - times[i - 1];
                sum += turnBits(step - stepBefore);
                long x = values[i] ^ values[i - 1];
                int above = Math.min(31, Long.numberOfLeadingZeros(x));
                int below = Long.numberOfTrailingZeros(x);
                if (x == 0) {
                    sum += 1;
                } else if (frameAbove != NONE && above >= frameAbove && below >= 64 - frameAbove - frameLength) {
                    sum += 2 + frameLength;
                } else {
                    frameAbove = above;
                    frameLength = 64 - above - below;
                    sum += 13 + frameLength;
                }
            }
            return sum;
        }

        private static int turnBits(long turn) {
            if (turn == 0) {
                return 1;
            }
            if (turn >= -64 && turn <= 63) {
                return 9;
            }
            if (turn >= -512 && turn <= 511) {
                return 13;
            }
            return turn >= -4096 && turn <= 4095 ? 17 : 45;
        }
    }

    /**
     * What a manifest and a catalog tell: parcels, scars, the horizon, how many series there are, and
     * their last times. One is the state in memory, another one that on the disk.
     */
    private static final class Shelf {
        private final Parcel[] parcels;
        private int parcelCount;
        private final int[] scarOwners;
        private final long[] scarFroms;
        private final long[] scarTos;
        private final int[] scarPoints;
        private int scarCount;
        private long horizon;
        private int seriesCount;
        private final long[] lasts;
        private int catalogBlocks;

        Shelf() {
            parcels = new Parcel[PARCEL_LIMIT];
            scarOwners = new int[SCAR_LIMIT];
            scarFroms = new long[SCAR_LIMIT];
            scarTos = new long[SCAR_LIMIT];
            scarPoints = new int[SCAR_LIMIT];
            lasts = new long[SERIES_LIMIT];
        }

        void clear() {
            parcelCount = 0;
            scarCount = 0;
            horizon = 0;
            seriesCount = 0;
            catalogBlocks = 0;
        }

        void takeParcels(Shelf other) {
            System.arraycopy(other.parcels, 0, parcels, 0, other.parcelCount);
            parcelCount = other.parcelCount;
            System.arraycopy(other.scarOwners, 0, scarOwners, 0, other.scarCount);
            System.arraycopy(other.scarFroms, 0, scarFroms, 0, other.scarCount);
            System.arraycopy(other.scarTos, 0, scarTos, 0, other.scarCount);
            scarCount = other.scarCount;
            horizon = other.horizon;
        }

        void takeCatalog(Shelf other) {
            System.arraycopy(other.lasts, 0, lasts, 0, other.seriesCount);
            seriesCount = other.seriesCount;
            catalogBlocks = other.catalogBlocks;
        }

        void addSeries() {
            if (seriesCount < SERIES_LIMIT) {
                lasts[seriesCount] = NONE;
                seriesCount++;
            }
        }

        int blocksInUse() {
            int sum = catalogBlocks;
            for (int k = 0; k < parcelCount; k++) {
                sum += parcels[k].blocks;
            }
            return sum;
        }

        void addParcel(Parcel made) {
            if (made != null && parcelCount < PARCEL_LIMIT) {
                parcels[parcelCount] = made;
                parcelCount++;
            }
        }

        void putTogether(int k, Parcel made) {
            int stay = k;
            if (made != null) {
                parcels[stay] = made;
                stay++;
            }
            for (int i = k + 2; i < parcelCount; i++) {
                parcels[stay] = parcels[i];
                stay++;
            }
            parcelCount = stay;
        }

        void moveHorizon(long time) {
            horizon = time;
            int stay = 0;
            for (int k = 0; k < parcelCount; k++) {
                if (parcels[k].newest >= time) {
                    parcels[stay] = parcels[k];
                    stay++;
                }
            }
            parcelCount = stay;
        }

        /**
         * A scar is narrowed to the times that its series has had and that are seen: so it covers no
         * point that comes later, and none that the horizon, not the delete, let go.
         */
        void addScar(int owner, long from, long to) {
            if (scarCount < SCAR_LIMIT) {
                scarOwners[scarCount] = owner;
                scarFroms[scarCount] = Math.max(from, horizon);
                scarTos[scarCount] = Math.min(to, lasts[owner]);
                scarCount++;
            }
        }

        /** The first one counts: it let the point go before the others came. */
        private int scarOf(int owner, long time) {
            for (int i = 0; i < scarCount; i++) {
                if (scarOwners[i] == owner && time >= scarFroms[i] && time <= scarTos[i]) {
                    return i;
                }
            }
            return NONE;
        }

        void endScars() {
            Arrays.fill(scarPoints, 0);
            for (int k = 0; k < parcelCount; k++) {
                countPointsOfScars(parcels[k]);
            }
            int stay = 0;
            for (int i = 0; i < scarCount; i++) {
                if (scarPoints[i] > 0) {
                    scarOwners[stay] = scarOwners[i];
                    scarFroms[stay] = scarFroms[i];
                    scarTos[stay] = scarTos[i];
                    stay++;
                }
            }
            scarCount = stay;
        }

        private void countPointsOfScars(Parcel parcel) {
            for (int i = 0; i < parcel.size; i++) {
                int scar = scarOf(parcel.owners[i], parcel.times[i]);
                if (scar != NONE) {
                    scarPoints[scar]++;
                }
            }
        }

        boolean sees(Parcel parcel, int i) {
            return parcel.times[i] >= horizon && scarOf(parcel.owners[i], parcel.times[i]) == NONE;
        }

        int countSeenOf(Parcel parcel) {
            return countSeenIn(parcel, LATEST_TIME);
        }

        private int countSeenIn(Parcel parcel, long to) {
            int found = 0;
            for (int i = 0; i < parcel.size; i++) {
                if (parcel.times[i] <= to && sees(parcel, i)) {
                    found++;
                }
            }
            return found;
        }

        int countAllSeen() {
            return countSeenBelow(LATEST_TIME + 1);
        }

        int countSeenBelow(long time) {
            int found = 0;
            for (int k = 0; k < parcelCount; k++) {
                found += countSeenIn(parcels[k], time - 1);
            }
            return found;
        }

        int countSeen(int owner, long from, long to) {
            int found = 0;
            for (int k = 0; k < parcelCount; k++) {
                found += countSeenOfOwner(parcels[k], owner, from, to);
            }
            return found;
        }

        private int countSeenOfOwner(Parcel parcel, int owner, long from, long to) {
            int found = 0;
            for (int i = 0; i < parcel.size; i++) {
                long time = parcel.times[i];
                if (parcel.owners[i] == owner && time >= from && time <= to && sees(parcel, i)) {
                    found++;
                }
            }
            return found;
        }

        void gatherSeen(Parcel parcel, Points points) {
            for (int i = 0; i < parcel.size; i++) {
                if (sees(parcel, i)) {
                    points.add(parcel.owners[i], parcel.times[i], parcel.values[i]);
                }
            }
        }
    }

    /** Records since the latest flush, the first ones of them kept. */
    private static final class Journal {
        private static final int NEW_SERIES = 0;
        private static final int POINT = 1;
        private static final int DELETE = 2;

        private int[] kinds;
        private int[] owners;
        private int[] unitsOf;
        private int[] blocksOf;
        private long[] firsts;
        private long[] seconds;
        private int size;
        private int kept;
        private int units;
        private int blockLimit;
        private int block;
        private int fill;
        private boolean changed;

        Journal() {
            kinds = new int[32];
            owners = new int[32];
            unitsOf = new int[32];
            blocksOf = new int[32];
            firsts = new long[32];
            seconds = new long[32];
        }

        void reset(int blocks) {
            blockLimit = blocks;
            clear();
        }

        void clear() {
            size = 0;
            forgetUnkept();
        }

        boolean fitsInBlock(int more) {
            return fill + more <= BLOCK_UNITS;
        }

        boolean hasRoom(int more) {
            return fitsInBlock(more) || block + 1 < blockLimit;
        }

        void beginNextBlock() {
            block++;
            fill = 0;
        }

        void add(int kind, int owner, int more, long first, long second) {
            if (size == kinds.length) {
                grow();
            }
            kinds[size] = kind;
            owners[size] = owner;
            unitsOf[size] = more;
            blocksOf[size] = block;
            firsts[size] = first;
            seconds[size] = second;
            size++;
            units += more;
            fill += more;
            changed = true;
        }

        private void grow() {
            kinds = Arrays.copyOf(kinds, 2 * size);
            owners = Arrays.copyOf(owners, 2 * size);
            unitsOf = Arrays.copyOf(unitsOf, 2 * size);
            blocksOf = Arrays.copyOf(blocksOf, 2 * size);
            firsts = Arrays.copyOf(firsts, 2 * size);
            seconds = Arrays.copyOf(seconds, 2 * size);
        }

        void keepAll() {
            kept = size;
            changed = false;
        }

        /** The journal goes on in the block of the last record that was kept, behind it. */
        void forgetUnkept() {
            size = Math.min(size, kept);
            kept = size;
            changed = false;
            units = 0;
            block = 0;
            fill = 0;
            for (int i = 0; i < size; i++) {
                fill = blocksOf[i] == block ? fill + unitsOf[i] : unitsOf[i];
                block = blocksOf[i];
                units += unitsOf[i];
            }
        }
    }

    /** One step of a question, its operands made by the steps before it. */
    private static final class Step {
        private final int kind;
        private final int place;
        private final long number;
        private final Word[] names;
        private int nameCount;
        private final ArrayList<Word> matchNames;
        private final ArrayList<Word> matchTexts;
        private int[] matchKinds;

        Step(int kind, int place, long number) {
            this.kind = kind;
            this.place = place;
            this.number = number;
            boolean picks = kind == Question.FUNC;
            names = new Word[picks ? LABEL_LIMIT : 0];
            matchNames = new ArrayList<Word>();
            matchTexts = new ArrayList<Word>();
            matchKinds = new int[picks ? 2 : 0];
        }

        boolean mayTakeName(Word name) {
            for (int i = 0; i < nameCount; i++) {
                if (names[i].same(name)) {
                    return false;
                }
            }
            return nameCount < names.length;
        }

        void addName(Word name) {
            names[nameCount] = name;
            nameCount++;
        }

        void addMatch(int matchKind, Word name, Word wanted) {
            int end = matchNames.size();
            if (end == matchKinds.length) {
                matchKinds = Arrays.copyOf(matchKinds, 2 * end + 2);
            }
            matchKinds[end] = matchKind;
            matchNames.add(name);
            matchTexts.add(wanted);
        }

        boolean takes(Series series) {
            for (int i = 0; i < matchNames.size(); i++) {
                if (!holds(matchKinds[i], series.valueOf(matchNames.get(i)), matchTexts.get(i))) {
                    return false;
                }
            }
            return true;
        }

        private static boolean holds(int matchKind, Word value, Word wanted) {
            switch (matchKind) {
                case '=':
                    return value.same(wanted);
                case Question.NOT_EQUAL:
                    return !value.same(wanted);
                case Question.BEGINS:
                    return value.beginsWith(wanted);
                default:
                    return !value.beginsWith(wanted);
            }
        }
    }

    /** Reads a question from the tape into steps; looks at no byte behind the first fault. */
    private static final class Question {
        // Tokens of one byte have that byte as their kind, these here have kinds above all bytes.
        private static final int END = 256;
        private static final int NUMBER = 257;
        private static final int NAME = 258;
        private static final int TEXT = 259;
        private static final int NOT_EQUAL = 260;
        private static final int BEGINS = 261;
        private static final int NOT_BEGINS = 262;
        private static final int BAD = 263;
        private static final int FUNC = 264;
        private static final int TURN = 265;

        private static final int SUM = 0;
        private static final int COUNT = 1;
        private static final int LEAST = 2;
        private static final int MOST = 3;
        private static final int FIRST = 4;
        private static final int LATEST = 5;
        private static final int GROWTH = 6;

        private static final int OPEN_LIMIT = 8;

        private byte[] tape;
        private int length;
        private int tokenKind;
        private int tokenStart;
        private int tokenEnd;
        private long tokenNumber;
        private int faultCode;
        private int faultPlace;
        private final ArrayList<Step> steps;

        Question() {
            tape = new byte[0];
            steps = new ArrayList<Step>();
        }

        boolean read(byte[] source, int sourceLength) {
            tape = source;
            length = sourceLength;
            faultCode = 0;
            faultPlace = 0;
            tokenEnd = 0;
            steps.clear();
            advance();
            return readExp(0) && (tokenKind == END || refuse(2, tokenStart));
        }

        /** Only the first fault counts: one of a token's own bytes is found before one of its place. */
        private boolean refuse(int code, int place) {
            if (faultCode == 0) {
                faultCode = code;
                faultPlace = place;
            }
            return false;
        }

        private boolean readExp(int open) {
            boolean fine = readTerm(open);
            for (int i = 0; fine && i < length && (tokenKind == '+' || tokenKind == '-'); i++) {
                Step step = new Step(tokenKind, tokenStart, 0);
                advance();
                fine = readTerm(open);
                steps.add(step);
            }
            return fine;
        }

        private boolean readTerm(int open) {
            boolean fine = readFactor(open);
            for (int i = 0; fine && i < length && isOfTerm(tokenKind); i++) {
                Step step = new Step(tokenKind, tokenStart, 0);
                advance();
                fine = readFactor(open);
                steps.add(step);
            }
            return fine;
        }

        private static boolean isOfTerm(int kind) {
            return kind == '*' || kind == '/' || kind == '%';
        }

        private boolean readFactor(int open) {
            switch (tokenKind) {
                case NUMBER:
                    steps.add(new Step(NUMBER, tokenStart, tokenNumber));
                    advance();
                    return true;
                case NAME:
                    return readFunc();
                case '-':
                case '(':
                    return open < OPEN_LIMIT ? readOpened(open + 1) : refuse(3, tokenStart);
                default:
                    return refuse(2, tokenStart);
            }
        }

        private boolean readOpened(int open) {
            int kind = tokenKind;
            int place = tokenStart;
            advance();
            if (kind == '(') {
                return readExp(open) && take(')');
            }
            boolean fine = readFactor(open);
            steps.add(new Step(TURN, place, 0));
            return fine;
        }

        private boolean take(int kind) {
            if (tokenKind != kind) {
                return refuse(2, tokenStart);
            }
            advance();
            return true;
        }

        private boolean readFunc() {
            Word name = tokenWord();
            int func = funcOf(name);
            if (func == NONE) {
                return refuse(2, tokenStart);
            }
            Step step = new Step(FUNC, tokenStart, func);
            steps.add(step);
            advance();
            if (tokenKind == NAME && tokenWord().spells("by")) {
                advance();
                if (!take('(') || !readNames(step) || !take(')')) {
                    return false;
                }
            }
            return take('(') && take('{') && readMatches(step) && take('}') && take(')');
        }

        private static int funcOf(Word name) {
            if (name.spells("sum")) {
                return SUM;
            }
            if (name.spells("count")) {
                return COUNT;
            }
            if (name.spells("least")) {
                return LEAST;
            }
            if (name.spells("most")) {
                return MOST;
            }
            if (name.spells("first")) {
                return FIRST;
            }
            if (name.spells("latest")) {
                return LATEST;
            }
            return name.spells("growth") ? GROWTH : NONE;
        }

        private boolean readNames(Step step) {
            // The seventh name is a fault, so that more rounds than this never come.
            for (int i = 0; i <= LABEL_LIMIT; i++) {
                if (tokenKind != NAME) {
                    return refuse(2, tokenStart);
                }
                Word name = tokenWord();
                if (!step.mayTakeName(name)) {
                    return refuse(4, tokenStart);
                }
                step.addName(name);
                advance();
                if (tokenKind != ',') {
                    return true;
                }
                advance();
            }
            return false;
        }

        private boolean readMatches(Step step) {
            if (tokenKind == '}') {
                return true;
            }
            for (int i = 0; i < length; i++) {
                if (tokenKind != NAME) {
                    return refuse(2, tokenStart);
                }
                Word name = tokenWord();
                advance();
                int matchKind = tokenKind;
                if (!isOfMatch(matchKind)) {
                    return refuse(2, tokenStart);
                }
                advance();
                if (tokenKind != TEXT) {
                    return refuse(2, tokenStart);
                }
                step.addMatch(matchKind, name, new Word(tape, tokenStart + 1, tokenEnd - 1));
                advance();
                if (tokenKind != ',') {
                    return true;
                }
                advance();
            }
            return false;
        }

        private static boolean isOfMatch(int kind) {
            return kind == '=' || kind == NOT_EQUAL || kind == BEGINS || kind == NOT_BEGINS;
        }

        private Word tokenWord() {
            return new Word(tape, tokenStart, tokenEnd);
        }

        // ---- tokens

        private void advance() {
            int place = tokenEnd;
            while (place < length && tape[place] == ' ') {
                place++;
            }
            tokenStart = place;
            if (place == length) {
                tokenEnd = length;
                tokenKind = END;
                return;
            }
            tokenEnd = place + 1;
            int letter = tape[place];
            if (isDigit(letter)) {
                tokenKind = readNumber();
            } else if (isOfName(letter)) {
                tokenKind = readName();
            } else {
                tokenKind = letter == '"' ? readText() : signOf(letter);
            }
            if (tokenKind == BAD) {
                refuse(1, place);
            }
        }

        private int signOf(int letter) {
            switch (letter) {
                case '!':
                    return nextIs('=') ? longer(NOT_EQUAL) : nextIs('^') ? longer(NOT_BEGINS) : BAD;
                case '^':
                    return nextIs('=') ? longer(BEGINS) : BAD;
                case '+':
                case '-':
                case '*':
                case '/':
                case '%':
                case '(':
                case ')':
                case '{':
                case '}':
                case ',':
                case '=':
                    return letter;
                default:
                    return BAD;
            }
        }

        private boolean nextIs(int letter) {
            return tokenEnd < length && tape[tokenEnd] == letter;
        }

        private int longer(int kind) {
            tokenEnd++;
            return kind;
        }

        private static boolean isDigit(int letter) {
            return letter >= '0' && letter <= '9';
        }

        private static boolean isOfName(int letter) {
            return letter >= 'a' && letter <= 'z' || letter >= 'A' && letter <= 'Z'
                    || letter >= '0' && letter <= '9' || letter == '_';
        }

        private int readNumber() {
            tokenNumber = 0;
            int place = tokenStart;
            boolean tooLarge = false;
            while (place < length && isDigit(tape[place])) {
                int digit = tape[place] - '0';
                tooLarge = tooLarge || tokenNumber > (Long.MAX_VALUE - digit) / 10;
                tokenNumber = 10 * tokenNumber + digit;
                place++;
            }
            tokenEnd = place;
            return tooLarge ? BAD : NUMBER;
        }

        private int readName() {
            while (tokenEnd < length && isOfName(tape[tokenEnd])) {
                tokenEnd++;
            }
            return NAME;
        }

        private int readText() {
            int place = tokenStart + 1;
            while (place < length && tape[place] != '"' && tape[place] >= 32 && tape[place] <= 126) {
                place++;
            }
            if (place == length || tape[place] != '"') {
                return BAD;
            }
            tokenEnd = place + 1;
            return TEXT;
        }
    }

    /** Names, rows by their texts, and a cell for each row and window. */
    private static final class Table {
        private final Word[] names;
        private int nameCount;
        private int windows;
        private int rowCount;
        // A row's texts are the values that this series, one of its own, has of the names.
        private final Series[] rowSeries;
        // Bit w tells whether there is a number in window w.
        private final long[] there;
        private long[] cells;

        Table() {
            names = new Word[LABEL_LIMIT];
            rowSeries = new Series[SERIES_LIMIT];
            there = new long[SERIES_LIMIT];
            cells = new long[WINDOW_LIMIT];
        }

        void makeNumber(long number, int n) {
            windows = n;
            nameCount = 0;
            rowCount = 1;
            clearCells();
            for (int w = 0; w < n; w++) {
                put(0, w, number);
            }
        }

        void beginRows(Step step, int n) {
            windows = n;
            nameCount = step.nameCount;
            for (int k = 0; k < nameCount; k++) {
                names[k] = step.names[k];
            }
            rowCount = 0;
        }

        /** Where a row with the texts of this series stands, or is to stand. */
        private int placeOf(Series series) {
            int before = 0;
            for (int step = SERIES_LIMIT; step > 0; step /= 2) {
                int next = before + step;
                if (next <= rowCount && compareTexts(rowSeries[next - 1], series) < 0) {
                    before = next;
                }
            }
            return before;
        }

        int rowOf(Series series) {
            int place = placeOf(series);
            return place < rowCount && compareTexts(rowSeries[place], series) == 0 ? place : NONE;
        }

        void addRow(Series series) {
            int place = placeOf(series);
            if (rowCount == SERIES_LIMIT || place < rowCount && compareTexts(rowSeries[place], series) == 0) {
                return;
            }
            for (int i = rowCount; i > place; i--) {
                rowSeries[i] = rowSeries[i - 1];
            }
            rowSeries[place] = series;
            rowCount++;
        }

        private int compareTexts(Series one, Series other) {
            for (int k = 0; k < nameCount; k++) {
                int order = one.valueOf(names[k]).compare(other.valueOf(names[k]));
                if (order != 0) {
                    return order;
                }
            }
            return 0;
        }

        void clearCells() {
            int needed = rowCount * windows;
            if (needed > cells.length) {
                cells = new long[Math.max(needed, 2 * cells.length)];
            }
            Arrays.fill(cells, 0, needed, 0);
            Arrays.fill(there, 0, rowCount, 0);
        }

        boolean has(int row, int window) {
            return (there[row] >>> window & 1) == 1;
        }

        long numberAt(int row, int window) {
            return cells[row * windows + window];
        }

        void put(int row, int window, long number) {
            cells[row * windows + window] = number;
            there[row] |= 1L << window;
        }

        Word rowText(int row, int k) {
            return rowSeries[row].valueOf(names[k]);
        }

        void turn() {
            for (int i = 0; i < rowCount * windows; i++) {
                cells[i] = -cells[i];
            }
        }

        void dropEmptyRows() {
            int stay = 0;
            for (int row = 0; row < rowCount; row++) {
                if (there[row] != 0) {
                    moveRow(row, stay);
                    stay++;
                }
            }
            rowCount = stay;
        }

        private void moveRow(int row, int place) {
            rowSeries[place] = rowSeries[row];
            there[place] = there[row];
            System.arraycopy(cells, row * windows, cells, place * windows, windows);
        }

        boolean hasNamesOf(Table other) {
            if (nameCount != other.nameCount) {
                return false;
            }
            for (int k = 0; k < nameCount; k++) {
                if (!names[k].same(other.names[k])) {
                    return false;
                }
            }
            return true;
        }

        /** Both have the same names: rows with the same texts make a row. */
        void joinRows(int operator, Table right) {
            int stay = 0;
            int other = 0;
            for (int row = 0; row < rowCount; row++) {
                while (other < right.rowCount && compareTexts(right.rowSeries[other], rowSeries[row]) < 0) {
                    other++;
                }
                if (other < right.rowCount && compareTexts(right.rowSeries[other], rowSeries[row]) == 0) {
                    moveRow(row, stay);
                    joinRow(operator, this, stay, right, other, stay);
                    stay++;
                }
            }
            rowCount = stay;
            dropEmptyRows();
        }

        /** The other one has no names: its row, if it has one, goes with each one of these. */
        void joinWithSingle(int operator, Table single, boolean singleIsLeft) {
            if (single.rowCount == 0) {
                rowCount = 0;
            }
            for (int row = 0; row < rowCount; row++) {
                if (singleIsLeft) {
                    joinRow(operator, single, 0, this, row, row);
                } else {
                    joinRow(operator, this, row, single, 0, row);
                }
            }
            dropEmptyRows();
        }

        private void joinRow(int operator, Table left, int leftRow, Table right, int rightRow, int target) {
            long both = left.there[leftRow] & right.there[rightRow];
            long stay = 0;
            for (int w = 0; w < windows; w++) {
                long one = left.numberAt(leftRow, w);
                long other = right.numberAt(rightRow, w);
                boolean divides = operator == '/' || operator == '%';
                if ((both >>> w & 1) == 1 && !(divides && other == 0)) {
                    stay |= 1L << w;
                    cells[target * windows + w] = joined(operator, one, other);
                }
            }
            there[target] = stay;
        }

        private static long joined(int operator, long one, long other) {
            switch (operator) {
                case '+':
                    return one + other;
                case '-':
                    return one - other;
                case '*':
                    return one * other;
                case '/':
                    return other == 0 ? 0 : one / other;
                default:
                    return other == 0 ? 0 : one % other;
            }
        }
    }

    /** Works the steps of a question on a stack of tables; the answer is the lowest one. */
    private static final class Answers {
        private final ArrayList<Table> stack;
        private int depth;
        private final int[] rowOf;
        private final boolean[] hasBefore;
        private final long[] before;
        private long[] bestTimes;
        private int[] bestOwners;
        private long from;
        private long width;
        private int windows;

        Answers() {
            stack = new ArrayList<Table>();
            rowOf = new int[SERIES_LIMIT];
            hasBefore = new boolean[SERIES_LIMIT];
            before = new long[SERIES_LIMIT];
            bestTimes = new long[WINDOW_LIMIT];
            bestOwners = new int[WINDOW_LIMIT];
            stack.add(new Table());
        }

        Table table() {
            return stack.get(0);
        }

        /** The place of the first operator whose tables do not go together, or NONE. */
        int work(Question question, Series[] known, Shelf shelf, Points head, long from, long width, int n) {
            this.from = from;
            this.width = width;
            windows = n;
            depth = 0;
            for (int i = 0; i < question.steps.size(); i++) {
                Step step = question.steps.get(i);
                switch (step.kind) {
                    case Question.NUMBER:
                        push().makeNumber(step.number, n);
                        break;
                    case Question.FUNC:
                        pick(step, push(), known, shelf, head);
                        break;
                    case Question.TURN:
                        stack.get(depth - 1).turn();
                        break;
                    default:
                        if (!join(step.kind)) {
                            return step.place;
                        }
                        break;
                }
            }
            return NONE;
        }

        private Table push() {
            if (depth == stack.size()) {
                stack.add(new Table());
            }
            depth++;
            return stack.get(depth - 1);
        }

        private boolean join(int operator) {
            Table left = stack.get(depth - 2);
            Table right = stack.get(depth - 1);
            depth--;
            if (left.hasNamesOf(right)) {
                left.joinRows(operator, right);
                return true;
            }
            if (right.nameCount == 0) {
                left.joinWithSingle(operator, right, false);
                return true;
            }
            if (left.nameCount == 0) {
                right.joinWithSingle(operator, left, true);
                stack.set(depth - 1, right);
                stack.set(depth, left);
                return true;
            }
            return false;
        }

        private void pick(Step step, Table made, Series[] known, Shelf shelf, Points head) {
            made.beginRows(step, windows);
            for (int s = 0; s < shelf.seriesCount; s++) {
                rowOf[s] = NONE;
                hasBefore[s] = false;
                if (step.takes(known[s])) {
                    rowOf[s] = 0;
                    made.addRow(known[s]);
                }
            }
            for (int s = 0; s < shelf.seriesCount; s++) {
                if (rowOf[s] != NONE) {
                    rowOf[s] = made.rowOf(known[s]);
                }
            }
            made.clearCells();
            makeBestRoom(made.rowCount * windows);
            meetPoints((int) step.number, made, shelf, head);
            made.dropEmptyRows();
        }

        private void makeBestRoom(int needed) {
            if (needed > bestTimes.length) {
                int size = Math.max(needed, 2 * bestTimes.length);
                bestTimes = new long[size];
                bestOwners = new int[size];
            }
        }

        private void meetPoints(int func, Table made, Shelf shelf, Points head) {
            for (int k = 0; k < shelf.parcelCount; k++) {
                Parcel parcel = shelf.parcels[k];
                for (int i = 0; i < parcel.size; i++) {
                    if (rowOf[parcel.owners[i]] != NONE && shelf.sees(parcel, i)) {
                        meet(func, made, parcel.owners[i], parcel.times[i], parcel.values[i]);
                    }
                }
            }
            for (int i = 0; i < head.size; i++) {
                if (rowOf[head.owners[i]] != NONE) {
                    meet(func, made, head.owners[i], head.times[i], head.values[i]);
                }
            }
        }

        /** The points of one series come here by rising times. */
        private void meet(int func, Table made, int owner, long time, long value) {
            int window = windowOf(time);
            int row = rowOf[owner];
            if (window != NONE && func == Question.GROWTH) {
                grow(made, row, window, owner, value);
            } else if (window != NONE && (func == Question.FIRST || func == Question.LATEST)) {
                choose(func, made, row, window, owner, time, value);
            } else if (window != NONE) {
                made.put(row, window, gathered(func, made, row, window, value));
            }
            hasBefore[owner] = true;
            before[owner] = value;
        }

        private int windowOf(long time) {
            if (time < from || width < 1) {
                return NONE;
            }
            long window = (time - from) / width;
            return window < windows ? (int) window : NONE;
        }

        private void grow(Table made, int row, int window, int owner, long value) {
            if (hasBefore[owner]) {
                long growth = before[owner] <= value ? value - before[owner] : value;
                made.put(row, window, made.numberAt(row, window) + growth);
            }
        }

        private void choose(int func, Table made, int row, int window, int owner, long time, long value) {
            int place = row * windows + window;
            long best = bestTimes[place];
            boolean better = func == Question.FIRST ? time < best : time > best;
            if (!made.has(row, window) || better || time == best && owner < bestOwners[place]) {
                made.put(row, window, value);
                bestTimes[place] = time;
                bestOwners[place] = owner;
            }
        }

        private static long gathered(int func, Table made, int row, int window, long value) {
            long soFar = made.numberAt(row, window);
            switch (func) {
                case Question.SUM:
                    return soFar + value;
                case Question.COUNT:
                    return soFar + 1;
                case Question.LEAST:
                    return made.has(row, window) ? Math.min(soFar, value) : value;
                default:
                    return made.has(row, window) ? Math.max(soFar, value) : value;
            }
        }
    }
}
