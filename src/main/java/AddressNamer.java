import java.util.Arrays;

/**
 * A namer of addresses: a file in the form of ELF-64 with DWARF 5 in it is read to its last byte or
 * refused with its first fault; of an address it tells the chain of functions that it is in, those
 * that were put into others first, each with its name, file and line; else the symbol that has it.
 */
public final class AddressNamer {
    public static final int NONE = -1;

    private static final int TAPE_MOST = 8000;
    private static final int FEED_BYTES = 20;

    private static final int CUT = 1;
    private static final int WRONG = 2;
    private static final int MISSING = 3;
    private static final int TOO_MANY = 4;

    private static final int SECTIONS_MOST = 30;
    private static final int SYMBOLS_MOST = 100;
    private static final int UNITS_MOST = 20;
    private static final int CODES_MOST = 40;
    private static final int PAIRS_MOST = 16;
    private static final int ENTRIES_MOST = 400;
    private static final int LEVELS_MOST = 24;
    private static final int ORIGINS_MOST = 8;
    private static final int RANGES_MOST = 200;
    private static final int FILES_MOST = 40;
    private static final int ROWS_MOST = 600;
    private static final int REGISTER_MOST = 1000000;
    private static final int LEB_MOST = 10;
    private static final int OPCODE_BASE_LEAST = 10;
    private static final int OPCODE_BASE_MOST = 20;
    /** A reference has four bytes, so no more of them find room on the tape. */
    private static final int REFERENCES_MOST = TAPE_MOST / 4;
    /** From here on a length of four bytes would mean another form of file. */
    private static final long LENGTH_RESERVED = 4294967280L;
    private static final long LOW_HALF = 4294967295L;

    private static final int HEAD_BYTES = 64;
    private static final int SECTION_BYTES = 64;
    private static final int SYMBOL_BYTES = 24;
    private static final int[] MAGIC = {127, 69, 76, 70, 2, 1, 1};
    private static final int[] STANDARD_OPERANDS = {0, 1, 1, 1, 1, 0, 0, 0, 1};

    private static final int SYMTAB = 0;
    private static final int STRTAB = 1;
    private static final int ABBREV = 2;
    private static final int INFO = 3;
    private static final int STR = 4;
    private static final int LINE = 5;
    private static final int RNGLISTS = 6;
    private static final int NAMES_MEANT = 7;

    private static final int TAG_BLOCK = 11;
    private static final int TAG_PUT_WITHIN = 29;
    private static final int TAG_FUNCTION = 46;

    private static final int FORM_ADDRESS = 1;
    private static final int FORM_TWO = 5;
    private static final int FORM_FOUR = 6;
    private static final int FORM_EIGHT = 7;
    private static final int FORM_TEXT = 8;
    private static final int FORM_ONE = 11;
    private static final int FORM_SLEB = 13;
    private static final int FORM_TOLD_TEXT = 14;
    private static final int FORM_ULEB = 15;
    private static final int FORM_REFERENCE = 19;
    private static final int FORM_OFFSET = 23;
    private static final int FORM_BYTES = 24;
    private static final int FORM_PRESENT = 25;
    private static final int FORM_OF_CODE = 33;

    private static final int ATTRIBUTE_NAME = 3;
    private static final int ATTRIBUTE_LINES = 16;
    private static final int ATTRIBUTE_LOW = 17;
    private static final int ATTRIBUTE_HIGH = 18;
    private static final int ATTRIBUTE_ABSTRACT = 49;
    private static final int ATTRIBUTE_DECLARED = 71;
    private static final int ATTRIBUTE_RANGES = 85;
    private static final int ATTRIBUTE_CALL_FILE = 88;
    private static final int ATTRIBUTE_CALL_LINE = 89;

    // What an entry may have been told, as columns of its row of values.
    private static final int NAME = 0;
    private static final int LOW = 1;
    private static final int HIGH = 2;
    private static final int HIGH_ABOVE_LOW = 3;
    private static final int RANGE_LIST = 4;
    private static final int ABSTRACT = 5;
    private static final int DECLARED = 6;
    private static final int CALL_FILE = 7;
    private static final int CALL_LINE = 8;
    private static final int LINES = 9;
    private static final int COLUMNS = 10;

    private final byte[] tape;
    /** The bytes of the file that was taken: its names must outlive changes of the tape. */
    private final byte[] kept;
    private final Cursor in;
    private final Sections sections;
    private final UnitReader unitReader;
    private final Lookup lookup;
    private Image taken;
    /** A file is read into this one, so that a refused one leaves the taken one as it was. */
    private Image spare;
    private int size;

    public AddressNamer() {
        tape = new byte[TAPE_MOST];
        kept = new byte[TAPE_MOST];
        in = new Cursor(tape);
        sections = new Sections();
        unitReader = new UnitReader(in, sections);
        lookup = new Lookup();
        taken = new Image();
        spare = new Image();
        size = 0;
    }

    public int feed(int a, int b, int c, int d, int e) {
        if (size + FEED_BYTES > TAPE_MOST) {
            return NONE;
        }
        append(a);
        append(b);
        append(c);
        append(d);
        append(e);
        return size;
    }

    private void append(int number) {
        for (int shift = 24; shift >= 0; shift -= 8) {
            if (size >= 0 && size < tape.length) {
                tape[size] = (byte) (number >> shift);
                size++;
            }
        }
    }

    public boolean end(int n) {
        if (n < 0 || n > size) {
            return false;
        }
        size = n;
        return true;
    }

    public boolean poke(int i, int v) {
        if (i < 0 || i >= size || i >= tape.length) {
            return false;
        }
        tape[i] = (byte) v;
        return true;
    }

    public int load() {
        in.open(size);
        sections.read(in);
        spare.sectionTotal = sections.total();
        spare.symbols.read(in, sections);
        unitReader.readAll(spare);
        spare.ranges.readAll(in, sections, spare);
        spare.lines.readAll(in, sections, spare);
        if (!in.sound()) {
            return NONE;
        }
        takeSpare();
        return taken.entries.total();
    }

    private void takeSpare() {
        Image before = taken;
        taken = spare;
        spare = before;
        if (size >= 0 && size <= tape.length && size <= kept.length) {
            System.arraycopy(tape, 0, kept, 0, size);
        }
        lookup.forget();
    }

    public int fault(int what) {
        switch (what) {
            case 0:
                return in.faultNumber();
            case 1:
                return in.faultPlace();
            default:
                return NONE;
        }
    }

    public int entry(int e, int what) {
        Entries entries = taken.entries;
        if (!entries.has(e)) {
            return NONE;
        }
        switch (what) {
            case 0:
                return (int) entries.tagOf(e);
            case 1:
                return entries.parentOf(e);
            case 2:
                return entries.unitOf(e);
            case 3:
                return entries.originOf(e);
            case 4:
                return entries.rangeTotalOf(e);
            case 5:
                return entries.placeOf(e);
            case 6:
                return entries.nameLengthOf(entries.namedFor(e));
            case 7:
                return (int) entries.valueOr(e, CALL_FILE, NONE);
            case 8:
                return (int) entries.valueOr(e, CALL_LINE, NONE);
            default:
                return NONE;
        }
    }

    public boolean holds(int e, long address) {
        return taken.entryHolds(e, address);
    }

    public int row(int i, int what) {
        Lines lines = taken.lines;
        if (!lines.has(i)) {
            return NONE;
        }
        switch (what) {
            case 0:
                return lines.unitOf(i);
            case 1:
                return lines.fileOf(i);
            case 2:
                return lines.lineOf(i);
            case 3:
                return lines.endsAt(i) ? 1 : 0;
            default:
                return NONE;
        }
    }

    public long rowAt(int i) {
        return taken.lines.has(i) ? taken.lines.addressOf(i) : NONE;
    }

    public int find(long address) {
        return lookup.seek(taken, address);
    }

    public int frame(int i, int what) {
        int e = lookup.entryOf(i);
        if (e == NONE) {
            return NONE;
        }
        switch (what) {
            case 0:
                return e;
            case 1:
                return lookup.fileNumberOf(taken, i);
            case 2:
                return lookup.lineNumberOf(taken, i);
            case 3:
                return taken.entries.nameLengthOf(taken.entries.namedFor(e));
            case 4:
                return taken.units.fileLengthOf(lookup.fileOf(taken, i));
            default:
                return NONE;
        }
    }

    public int name(int i, int k) {
        if (i == NONE) {
            int s = lookup.symbolFound();
            return sign(taken.symbols.namePlaceOf(s), taken.symbols.nameLengthOf(s), k);
        }
        int named = taken.entries.namedFor(lookup.entryOf(i));
        return sign(taken.entries.namePlaceOf(named), taken.entries.nameLengthOf(named), k);
    }

    public int file(int i, int k) {
        int f = lookup.fileOf(taken, i);
        return sign(taken.units.filePlaceOf(f), taken.units.fileLengthOf(f), k);
    }

    private int sign(int place, int length, int k) {
        if (place < 0 || k < 0 || k >= length || k >= kept.length - place) {
            return NONE;
        }
        return kept[place + k] & 255;
    }

    public int symbol(int what) {
        int s = lookup.symbolFound();
        if (s == NONE) {
            return NONE;
        }
        switch (what) {
            case 0:
                return s;
            case 1:
                return taken.symbols.nameLengthOf(s);
            case 2:
                return lookup.aboveSymbol();
            default:
                return NONE;
        }
    }

    public int count(int what) {
        switch (what) {
            case 0:
                return size;
            case 1:
                return taken.sectionTotal;
            case 2:
                return taken.symbols.total();
            case 3:
                return taken.units.total();
            case 4:
                return taken.entries.total();
            case 5:
                return taken.ranges.total();
            case 6:
                return taken.lines.total();
            case 7:
                return taken.units.fileTotal();
            default:
                return NONE;
        }
    }

    // Every row of numbers is read and written through these four: no index goes untested.

    private static int at(int[] cells, int i) {
        return i >= 0 && i < cells.length ? cells[i] : NONE;
    }

    private static long at(long[] cells, int i) {
        return i >= 0 && i < cells.length ? cells[i] : NONE;
    }

    private static void put(int[] cells, int i, int v) {
        if (i >= 0 && i < cells.length) {
            cells[i] = v;
        }
    }

    private static void put(long[] cells, int i, long v) {
        if (i >= 0 && i < cells.length) {
            cells[i] = v;
        }
    }

    /**
     * So much more (a number without sign) than an address, or NONE where that lies beyond them all:
     * a sum of 64 bits may have lost its highest one and look like an address then.
     */
    private static long above(long address, long more) {
        long sum = address + more;
        return sum < address ? NONE : sum;
    }

    /**
     * Reads the tape within a window. The first fault stays; behind it every reading answers 0 and
     * moves nowhere, so that those who read need not ask after each number.
     */
    private static final class Cursor {
        private final byte[] bytes;
        private int size;
        private int place;
        private int stop;
        private int faultNumber;
        private int faultPlace;

        Cursor(byte[] bytes) {
            this.bytes = bytes;
            faultPlace = NONE;
        }

        void open(int fileSize) {
            size = fileSize;
            faultNumber = 0;
            faultPlace = NONE;
            within(0, fileSize);
        }

        void within(int from, int to) {
            place = from;
            stop = to;
        }

        int size() {
            return size;
        }

        int place() {
            return place;
        }

        int stop() {
            return stop;
        }

        boolean sound() {
            return faultNumber == 0;
        }

        int faultNumber() {
            return faultNumber;
        }

        int faultPlace() {
            return faultPlace;
        }

        void refuse(int number, int where) {
            if (faultNumber == 0) {
                faultNumber = number;
                faultPlace = where;
            }
        }

        /** Whether so many bytes are left; a length of 64 bits below 0 is a huge one. */
        boolean hasLeft(long length) {
            return length >= 0 && length <= stop - place;
        }

        /** Whether such a part lies in the file. */
        boolean lies(long offset, long length) {
            return offset >= 0 && length >= 0 && offset <= size && length <= size - offset;
        }

        int byteAt(int where) {
            return where >= 0 && where < bytes.length ? bytes[where] & 255 : 0;
        }

        long numberAt(int where, int width) {
            long value = 0;
            for (int i = 0; i < width; i++) {
                int cell = where + i;
                long low = cell >= 0 && cell < bytes.length ? bytes[cell] & 255 : 0;
                value |= low << (8 * i);
            }
            return value;
        }

        long number(int width) {
            if (!sound()) {
                return 0;
            }
            if (!hasLeft(width)) {
                refuse(CUT, place);
                return 0;
            }
            long value = numberAt(place, width);
            place += width;
            return value;
        }

        int numberBetween(int width, int least, int most) {
            int begin = place;
            long value = number(width);
            if (value < least || value > most) {
                refuse(WRONG, begin);
                return least;
            }
            return (int) value;
        }

        void expectUleb(long due) {
            int begin = place;
            if (uleb() != due) {
                refuse(WRONG, begin);
            }
        }

        long uleb() {
            if (!sound()) {
                return 0;
            }
            long value = 0;
            for (int i = 0; i < LEB_MOST && i < stop - place; i++) {
                int b = byteAt(place + i);
                value |= (long) (b & 127) << (7 * i);
                if (b < 128) {
                    place += i + 1;
                    return value;
                }
            }
            refuse(CUT, place);
            return 0;
        }

        long sleb() {
            int begin = place;
            long value = uleb();
            int bits = 7 * (place - begin);
            boolean below = bits > 0 && (byteAt(place - 1) & 64) != 0;
            return below && bits < 64 ? value | -1L << bits : value;
        }

        /** The length of the string that begins here; the place is behind its end then. */
        int text() {
            if (!sound()) {
                return 0;
            }
            int length = textLength(place, stop);
            if (length == NONE) {
                refuse(CUT, place);
                return 0;
            }
            place += length + 1;
            return length;
        }

        /** The length of a string that is told by its offset in a section; faults are the teller's. */
        int toldText(int from, int to, long offset, int teller) {
            if (offset < 0 || offset >= to - from) {
                refuse(MISSING, teller);
                return 0;
            }
            int length = textLength(from + (int) offset, to);
            if (length == NONE) {
                refuse(CUT, teller);
                return 0;
            }
            return length;
        }

        private int textLength(int from, int to) {
            for (int i = from; i < to; i++) {
                if (i >= 0 && i < bytes.length && bytes[i] == 0) {
                    return i - from;
                }
            }
            return NONE;
        }

        boolean isText(int where, int length, String text) {
            if (length != text.length()) {
                return false;
            }
            for (int i = 0; i < text.length(); i++) {
                if (byteAt(where + i) != text.charAt(i)) {
                    return false;
                }
            }
            return true;
        }

        /** Units and tables of lines tell their length first: the window ends where they end. */
        void enterCounted() {
            int begin = place;
            long length = number(4);
            if (length >= LENGTH_RESERVED) {
                refuse(WRONG, begin);
            } else if (!hasLeft(length)) {
                refuse(CUT, begin);
            } else {
                stop = place + (int) length;
            }
        }
    }

    /** Where the sections of the file are, and which of them the names mean. */
    private static final class Sections {
        private final int[] begins = new int[SECTIONS_MOST];
        private final int[] stops = new int[SECTIONS_MOST];
        private final int[] meant = new int[NAMES_MEANT];
        private int total;
        private int table;
        private int names;

        void read(Cursor in) {
            total = 0;
            Arrays.fill(meant, NONE);
            readHead(in);
            for (int i = 0; i < SECTIONS_MOST && i < total && in.sound(); i++) {
                readRow(in, i);
            }
            for (int i = 0; i < SECTIONS_MOST && i < total && in.sound(); i++) {
                readName(in, i);
            }
        }

        private void readHead(Cursor in) {
            for (int i = 0; i < MAGIC.length && i < in.size(); i++) {
                if (in.byteAt(i) != MAGIC[i]) {
                    in.refuse(WRONG, i);
                }
            }
            if (in.size() < HEAD_BYTES) {
                in.refuse(CUT, 0);
            }
            if (in.numberAt(58, 2) != SECTION_BYTES) {
                in.refuse(WRONG, 58);
            }
            long rows = in.numberAt(60, 2);
            if (rows == 0) {
                in.refuse(WRONG, 60);
            } else if (rows > SECTIONS_MOST) {
                in.refuse(TOO_MANY, 60);
            }
            long which = in.numberAt(62, 2);
            if (which >= rows) {
                in.refuse(MISSING, 62);
            }
            long offset = in.numberAt(40, 8);
            if (!in.lies(offset, rows * SECTION_BYTES)) {
                in.refuse(CUT, 40);
            }
            if (in.sound()) {
                total = (int) rows;
                names = (int) which;
                table = (int) offset;
            }
        }

        private void readRow(Cursor in, int i) {
            int row = table + i * SECTION_BYTES;
            long type = in.numberAt(row + 4, 4);
            long offset = in.numberAt(row + 24, 8);
            long length = in.numberAt(row + 32, 8);
            boolean empty = type == 0 || type == 8;
            if (!empty && !in.lies(offset, length)) {
                in.refuse(CUT, row);
                empty = true;
            }
            put(begins, i, empty ? 0 : (int) offset);
            put(stops, i, empty ? 0 : (int) (offset + length));
        }

        private void readName(Cursor in, int i) {
            int row = table + i * SECTION_BYTES;
            long offset = in.numberAt(row, 4);
            int from = at(begins, names);
            int length = in.toldText(from, at(stops, names), offset, row);
            if (!in.sound()) {
                return;
            }
            for (int which = 0; which < NAMES_MEANT; which++) {
                if (at(meant, which) == NONE && in.isText(from + (int) offset, length, nameMeant(which))) {
                    put(meant, which, i);
                }
            }
        }

        private static String nameMeant(int which) {
            switch (which) {
                case SYMTAB:
                    return ".symtab";
                case STRTAB:
                    return ".strtab";
                case ABBREV:
                    return ".debug_abbrev";
                case INFO:
                    return ".debug_info";
                case STR:
                    return ".debug_str";
                case LINE:
                    return ".debug_line";
                default:
                    return ".debug_rnglists";
            }
        }

        int total() {
            return total;
        }

        int beginOf(int which) {
            int section = at(meant, which);
            return section == NONE ? 0 : at(begins, section);
        }

        int stopOf(int which) {
            int section = at(meant, which);
            return section == NONE ? 0 : at(stops, section);
        }

        boolean isIn(int which, long offset) {
            return offset >= 0 && offset < stopOf(which) - beginOf(which);
        }
    }

    /** All that is told of one file. */
    private static final class Image {
        private final Symbols symbols = new Symbols();
        private final Units units = new Units();
        private final Entries entries = new Entries();
        private final Ranges ranges = new Ranges();
        private final Lines lines = new Lines();
        private int sectionTotal;

        boolean entryHolds(int e, long address) {
            if (!entries.has(e)) {
                return false;
            }
            return ranges.oneHolds(entries.firstRangeOf(e), entries.rangeTotalOf(e), address);
        }

        int functionHolding(long address) {
            for (int e = 0; e < ENTRIES_MOST && e < entries.total(); e++) {
                if (entries.tagOf(e) == TAG_FUNCTION && entryHolds(e, address)) {
                    return e;
                }
            }
            return NONE;
        }

        int childHolding(int parent, long address) {
            for (int e = parent + 1; e < ENTRIES_MOST && e < entries.total(); e++) {
                long tag = entries.tagOf(e);
                boolean fits = tag == TAG_BLOCK || tag == TAG_PUT_WITHIN;
                if (fits && entries.parentOf(e) == parent && entryHolds(e, address)) {
                    return e;
                }
            }
            return NONE;
        }
    }

    /** The symbols that matter. */
    private static final class Symbols {
        private final long[] values = new long[SYMBOLS_MOST];
        private final long[] extents = new long[SYMBOLS_MOST];
        private final int[] namePlaces = new int[SYMBOLS_MOST];
        private final int[] nameLengths = new int[SYMBOLS_MOST];
        private int total;

        void read(Cursor in, Sections sections) {
            total = 0;
            int begin = sections.beginOf(SYMTAB);
            int stop = sections.stopOf(SYMTAB);
            int rows = (stop - begin) / SYMBOL_BYTES;
            for (int i = 0; i < rows && in.sound(); i++) {
                readRow(in, sections, begin + i * SYMBOL_BYTES);
            }
            int rest = begin + rows * SYMBOL_BYTES;
            if (rest < stop) {
                in.refuse(CUT, rest);
            }
        }

        private void readRow(Cursor in, Sections sections, int row) {
            long value = in.numberAt(row + 8, 8);
            long extent = in.numberAt(row + 16, 8);
            boolean function = in.byteAt(row + 4) % 16 == 2;
            if (!function || in.numberAt(row + 6, 2) == 0 || extent == 0) {
                return;
            }
            if (value < 0 || extent < 0 || value + extent < 0) {
                in.refuse(WRONG, row);
            }
            long offset = in.numberAt(row, 4);
            int from = sections.beginOf(STRTAB);
            int length = in.toldText(from, sections.stopOf(STRTAB), offset, row);
            if (total >= SYMBOLS_MOST) {
                in.refuse(TOO_MANY, row);
            }
            if (!in.sound()) {
                return;
            }
            put(values, total, value);
            put(extents, total, extent);
            put(namePlaces, total, from + (int) offset);
            put(nameLengths, total, length);
            total++;
        }

        int total() {
            return total;
        }

        int namePlaceOf(int s) {
            return s >= 0 && s < total ? at(namePlaces, s) : NONE;
        }

        int nameLengthOf(int s) {
            return s >= 0 && s < total ? at(nameLengths, s) : NONE;
        }

        long valueOf(int s) {
            return at(values, s);
        }

        int holding(long address) {
            int best = NONE;
            for (int s = 0; s < SYMBOLS_MOST && s < total; s++) {
                long value = at(values, s);
                boolean held = address >= value && address < value + at(extents, s);
                if (held && (best == NONE || value > at(values, best))) {
                    best = s;
                }
            }
            return best;
        }
    }

    /** The units, and the files of their tables of lines. */
    private static final class Units {
        private final int[] begins = new int[UNITS_MOST];
        private final int[] firstEntries = new int[UNITS_MOST];
        private final int[] firstFiles = new int[UNITS_MOST];
        private final int[] fileTotals = new int[UNITS_MOST];
        private final int[] filePlaces = new int[FILES_MOST];
        private final int[] fileLengths = new int[FILES_MOST];
        private int total;
        private int fileTotal;

        void clear() {
            total = 0;
            fileTotal = 0;
        }

        int add(int begin, int firstEntry) {
            if (total >= UNITS_MOST) {
                return NONE;
            }
            put(begins, total, begin);
            put(firstEntries, total, firstEntry);
            put(firstFiles, total, 0);
            put(fileTotals, total, 0);
            total++;
            return total - 1;
        }

        void beginFiles(int unit) {
            put(firstFiles, unit, fileTotal);
        }

        void addFile(int unit, int place, int length) {
            if (fileTotal >= FILES_MOST) {
                return;
            }
            put(filePlaces, fileTotal, place);
            put(fileLengths, fileTotal, length);
            fileTotal++;
            put(fileTotals, unit, at(fileTotals, unit) + 1);
        }

        int total() {
            return total;
        }

        int fileTotal() {
            return fileTotal;
        }

        int beginOf(int unit) {
            return at(begins, unit);
        }

        int firstEntryOf(int unit) {
            return at(firstEntries, unit);
        }

        /** Which of all files a number means in a unit. */
        int fileOf(int unit, int number) {
            if (unit < 0 || unit >= total || number < 0 || number >= at(fileTotals, unit)) {
                return NONE;
            }
            return at(firstFiles, unit) + number;
        }

        int filePlaceOf(int f) {
            return f >= 0 && f < fileTotal ? at(filePlaces, f) : NONE;
        }

        int fileLengthOf(int f) {
            return f >= 0 && f < fileTotal ? at(fileLengths, f) : NONE;
        }
    }

    /** The entries of all units, in the order in which they were read. */
    private static final class Entries {
        private final long[] tags = new long[ENTRIES_MOST];
        private final int[] parents = new int[ENTRIES_MOST];
        private final int[] units = new int[ENTRIES_MOST];
        private final int[] places = new int[ENTRIES_MOST];
        private final int[] origins = new int[ENTRIES_MOST];
        private final int[] nameLengths = new int[ENTRIES_MOST];
        private final int[] firstRanges = new int[ENTRIES_MOST];
        private final int[] rangeTotals = new int[ENTRIES_MOST];
        /** A bit for each column that has a value. */
        private final int[] told = new int[ENTRIES_MOST];
        private final long[] values = new long[ENTRIES_MOST * COLUMNS];
        private int total;

        void clear() {
            total = 0;
        }

        int add(long tag, int parent, int unit, int place) {
            if (total >= ENTRIES_MOST) {
                return NONE;
            }
            put(tags, total, tag);
            put(parents, total, parent);
            put(units, total, unit);
            put(places, total, place);
            put(origins, total, NONE);
            put(nameLengths, total, NONE);
            put(firstRanges, total, 0);
            put(rangeTotals, total, 0);
            put(told, total, 0);
            total++;
            return total - 1;
        }

        /** Of several attributes alike the first one counts: a column that has a value keeps it. */
        boolean keepFirst(int e, int column, long value) {
            int before = at(told, e);
            int bit = 1 << column;
            if (!has(e) || (before & bit) != 0) {
                return false;
            }
            put(values, e * COLUMNS + column, value);
            put(told, e, before | bit);
            return true;
        }

        void keepName(int e, int place, int length) {
            if (keepFirst(e, NAME, place)) {
                put(nameLengths, e, length);
            }
        }

        void setRanges(int e, int first, int number) {
            put(firstRanges, e, first);
            put(rangeTotals, e, number);
        }

        /** The references were looked at before: what they tell is the place of an entry. */
        void settleOrigin(int e, int firstOfUnit) {
            long place = valueOr(e, ABSTRACT, valueOr(e, DECLARED, NONE));
            put(origins, e, place == NONE ? NONE : placedAt(place, firstOfUnit));
        }

        /** The entry at a place, of those from one on: places rise as entries are read. */
        int placedAt(long place, int from) {
            int low = from;
            int high = total - 1;
            for (int step = 0; step < ENTRIES_MOST && low <= high; step++) {
                int middle = (low + high) / 2;
                int found = placeOf(middle);
                if (found == place) {
                    return middle;
                }
                if (found < place) {
                    low = middle + 1;
                } else {
                    high = middle - 1;
                }
            }
            return NONE;
        }

        int total() {
            return total;
        }

        boolean has(int e) {
            return e >= 0 && e < total;
        }

        boolean isTold(int e, int column) {
            return has(e) && (at(told, e) & 1 << column) != 0;
        }

        long valueOr(int e, int column, long without) {
            return isTold(e, column) ? at(values, e * COLUMNS + column) : without;
        }

        long tagOf(int e) {
            return at(tags, e);
        }

        int parentOf(int e) {
            return at(parents, e);
        }

        int unitOf(int e) {
            return at(units, e);
        }

        int placeOf(int e) {
            return at(places, e);
        }

        int originOf(int e) {
            return at(origins, e);
        }

        int firstRangeOf(int e) {
            return at(firstRanges, e);
        }

        int rangeTotalOf(int e) {
            return at(rangeTotals, e);
        }

        /** The entry whose own name is the one of this entry. */
        int namedFor(int e) {
            int named = e;
            for (int i = 0; i <= ORIGINS_MOST && has(named); i++) {
                if (isTold(named, NAME)) {
                    return named;
                }
                named = originOf(named);
            }
            return NONE;
        }

        int namePlaceOf(int e) {
            return (int) valueOr(e, NAME, NONE);
        }

        int nameLengthOf(int e) {
            return has(e) ? at(nameLengths, e) : NONE;
        }
    }

    /** The abbreviations of one unit: of each code what its entries have. */
    private static final class Abbreviations {
        private final long[] codes = new long[CODES_MOST];
        private final long[] tags = new long[CODES_MOST];
        private final int[] children = new int[CODES_MOST];
        private final int[] pairTotals = new int[CODES_MOST];
        private final long[] attributes = new long[CODES_MOST * PAIRS_MOST];
        private final int[] forms = new int[CODES_MOST * PAIRS_MOST];
        private final long[] values = new long[CODES_MOST * PAIRS_MOST];
        private int total;

        void read(Cursor in) {
            total = 0;
            boolean more = true;
            for (int i = 0; i <= CODES_MOST && more && in.sound(); i++) {
                more = readCode(in);
            }
        }

        private boolean readCode(Cursor in) {
            int place = in.place();
            long code = in.uleb();
            if (code == 0) {
                return false;
            }
            if (indexOf(code) != NONE) {
                in.refuse(WRONG, place);
            }
            if (total >= CODES_MOST) {
                in.refuse(TOO_MANY, place);
            }
            if (!in.sound()) {
                return false;
            }
            put(codes, total, code);
            put(tags, total, in.uleb());
            put(children, total, in.numberBetween(1, 0, 1));
            put(pairTotals, total, 0);
            boolean more = true;
            for (int i = 0; i <= PAIRS_MOST && more && in.sound(); i++) {
                more = readPair(in);
            }
            total++;
            return true;
        }

        private boolean readPair(Cursor in) {
            int place = in.place();
            long attribute = in.uleb();
            long form = in.uleb();
            if (attribute == 0 && form == 0) {
                return false;
            }
            if (attribute == 0 || !isForm(form)) {
                in.refuse(WRONG, place);
            }
            int pairs = at(pairTotals, total);
            if (pairs >= PAIRS_MOST) {
                in.refuse(TOO_MANY, place);
            }
            if (!in.sound()) {
                return false;
            }
            int cell = total * PAIRS_MOST + pairs;
            put(attributes, cell, attribute);
            put(forms, cell, (int) form);
            put(values, cell, form == FORM_OF_CODE ? in.sleb() : 0);
            put(pairTotals, total, pairs + 1);
            return true;
        }

        private static boolean isForm(long form) {
            if (form < 0 || form > FORM_OF_CODE) {
                return false;
            }
            switch ((int) form) {
                case FORM_ADDRESS:
                case FORM_TWO:
                case FORM_FOUR:
                case FORM_EIGHT:
                case FORM_TEXT:
                case FORM_ONE:
                case FORM_SLEB:
                case FORM_TOLD_TEXT:
                case FORM_ULEB:
                case FORM_REFERENCE:
                case FORM_OFFSET:
                case FORM_BYTES:
                case FORM_PRESENT:
                case FORM_OF_CODE:
                    return true;
                default:
                    return false;
            }
        }

        int indexOf(long code) {
            for (int i = 0; i < CODES_MOST && i < total; i++) {
                if (at(codes, i) == code) {
                    return i;
                }
            }
            return NONE;
        }

        long tagOf(int index) {
            return at(tags, index);
        }

        boolean hasChildren(int index) {
            return at(children, index) == 1;
        }

        int pairTotalOf(int index) {
            return at(pairTotals, index);
        }

        long attributeOf(int index, int pair) {
            return at(attributes, index * PAIRS_MOST + pair);
        }

        int formOf(int index, int pair) {
            return at(forms, index * PAIRS_MOST + pair);
        }

        long valueOf(int index, int pair) {
            return at(values, index * PAIRS_MOST + pair);
        }
    }

    /** Reads the units and their entries into an image. */
    private static final class UnitReader {
        private final Cursor in;
        private final Sections sections;
        private final Abbreviations abbreviations = new Abbreviations();
        /** The entries whose children are being read, the outermost first. */
        private final int[] open = new int[LEVELS_MOST];
        private int depth;
        /** Where the references of the unit stand: they may tell of entries that come later. */
        private final int[] references = new int[REFERENCES_MOST];
        private int referenceTotal;
        private int unitBegin;
        private int textPlace;
        private int textLength;

        UnitReader(Cursor in, Sections sections) {
            this.in = in;
            this.sections = sections;
        }

        void readAll(Image image) {
            image.units.clear();
            image.entries.clear();
            int stop = sections.stopOf(INFO);
            unitBegin = sections.beginOf(INFO);
            for (int i = 0; i <= UNITS_MOST && unitBegin < stop && in.sound(); i++) {
                in.within(unitBegin, stop);
                long offset = readHead(image.units);
                int body = in.place();
                int unitStop = in.stop();
                int firstEntry = image.entries.total();
                int unit = image.units.add(unitBegin, firstEntry);
                in.within(sections.beginOf(ABBREV) + (int) offset, sections.stopOf(ABBREV));
                abbreviations.read(in);
                in.within(body, unitStop);
                readEntries(image.entries, unit);
                settleReferences(image.entries, firstEntry);
                unitBegin = unitStop;
            }
        }

        /** Answers the offset of the unit's abbreviations. */
        private long readHead(Units units) {
            in.enterCounted();
            if (units.total() >= UNITS_MOST) {
                in.refuse(TOO_MANY, unitBegin);
            }
            in.numberBetween(2, 5, 5);
            in.numberBetween(1, 1, 1);
            in.numberBetween(1, 8, 8);
            int place = in.place();
            long offset = in.number(4);
            if (!sections.isIn(ABBREV, offset)) {
                in.refuse(MISSING, place);
                return 0;
            }
            return offset;
        }

        private void readEntries(Entries entries, int unit) {
            depth = 0;
            referenceTotal = 0;
            boolean whole = false;
            for (int step = 0; step < TAPE_MOST && !whole && in.sound(); step++) {
                int place = in.place();
                long code = in.uleb();
                if (code != 0) {
                    readEntry(entries, unit, place, code);
                } else if (depth > 0) {
                    depth--;
                } else {
                    in.refuse(WRONG, place);
                }
                whole = depth == 0;
            }
            if (in.place() != in.stop()) {
                in.refuse(WRONG, in.place());
            }
        }

        private void readEntry(Entries entries, int unit, int place, long code) {
            int shape = abbreviations.indexOf(code);
            if (shape == NONE) {
                in.refuse(MISSING, place);
            }
            if (entries.total() >= ENTRIES_MOST || depth >= LEVELS_MOST) {
                in.refuse(TOO_MANY, place);
            }
            if (!in.sound()) {
                return;
            }
            int parent = depth > 0 ? at(open, depth - 1) : NONE;
            int e = entries.add(abbreviations.tagOf(shape), parent, unit, place);
            int pairs = abbreviations.pairTotalOf(shape);
            for (int i = 0; i < PAIRS_MOST && i < pairs && in.sound(); i++) {
                int form = abbreviations.formOf(shape, i);
                long value = readValue(form, abbreviations.valueOf(shape, i));
                if (in.sound()) {
                    keepValue(entries, e, abbreviations.attributeOf(shape, i), form, value);
                }
            }
            if (abbreviations.hasChildren(shape)) {
                put(open, depth, e);
                depth++;
            }
        }

        private long readValue(int form, long toldByCode) {
            switch (form) {
                case FORM_ADDRESS:
                    return readAddress();
                case FORM_ONE:
                    return in.number(1);
                case FORM_TWO:
                    return in.number(2);
                case FORM_FOUR:
                case FORM_OFFSET:
                    return in.number(4);
                case FORM_EIGHT:
                    return in.number(8);
                case FORM_ULEB:
                    return in.uleb();
                case FORM_SLEB:
                    return in.sleb();
                case FORM_TEXT:
                    textPlace = in.place();
                    textLength = in.text();
                    return textPlace;
                case FORM_TOLD_TEXT:
                    return readToldText();
                case FORM_REFERENCE:
                    return readReference();
                case FORM_BYTES:
                    return skipBytes();
                case FORM_PRESENT:
                    return 1;
                default:
                    return toldByCode;
            }
        }

        private long readAddress() {
            int place = in.place();
            long address = in.number(8);
            if (address < 0) {
                in.refuse(WRONG, place);
            }
            return address;
        }

        private long readToldText() {
            int place = in.place();
            long offset = in.number(4);
            int from = sections.beginOf(STR);
            textLength = in.toldText(from, sections.stopOf(STR), offset, place);
            textPlace = in.sound() ? from + (int) offset : NONE;
            return textPlace;
        }

        /** Answers the place in the file that the reference tells. */
        private long readReference() {
            int place = in.place();
            long target = unitBegin + in.number(4);
            if (in.sound()) {
                put(references, referenceTotal, place);
                referenceTotal++;
            }
            return target;
        }

        private long skipBytes() {
            int place = in.place();
            long length = in.uleb();
            if (!in.hasLeft(length)) {
                in.refuse(CUT, place);
                return 0;
            }
            in.within(in.place() + (int) length, in.stop());
            return length;
        }

        private static boolean isCountForm(int form) {
            return form == FORM_ONE || form == FORM_TWO || form == FORM_FOUR || form == FORM_EIGHT
                    || form == FORM_ULEB || form == FORM_OF_CODE;
        }

        private void keepValue(Entries entries, int e, long attribute, int form, long value) {
            if (attribute == ATTRIBUTE_NAME && (form == FORM_TEXT || form == FORM_TOLD_TEXT)) {
                entries.keepName(e, textPlace, textLength);
            } else if (attribute == ATTRIBUTE_HIGH) {
                keepHigh(entries, e, form, value);
            } else {
                int column = columnOf(attribute, form);
                if (column != NONE) {
                    entries.keepFirst(e, column, value);
                }
            }
        }

        private void keepHigh(Entries entries, int e, int form, long value) {
            if (form == FORM_ADDRESS && !entries.isTold(e, HIGH_ABOVE_LOW)) {
                entries.keepFirst(e, HIGH, value);
            } else if (isCountForm(form) && !entries.isTold(e, HIGH)) {
                entries.keepFirst(e, HIGH_ABOVE_LOW, value);
            }
        }

        private static int columnOf(long attribute, int form) {
            if (form == FORM_ADDRESS) {
                return attribute == ATTRIBUTE_LOW ? LOW : NONE;
            }
            if (form == FORM_REFERENCE && attribute == ATTRIBUTE_ABSTRACT) {
                return ABSTRACT;
            }
            if (form == FORM_REFERENCE && attribute == ATTRIBUTE_DECLARED) {
                return DECLARED;
            }
            if (form == FORM_OFFSET && attribute == ATTRIBUTE_RANGES) {
                return RANGE_LIST;
            }
            if (form == FORM_OFFSET && attribute == ATTRIBUTE_LINES) {
                return LINES;
            }
            if (isCountForm(form) && attribute == ATTRIBUTE_CALL_FILE) {
                return CALL_FILE;
            }
            return isCountForm(form) && attribute == ATTRIBUTE_CALL_LINE ? CALL_LINE : NONE;
        }

        private void settleReferences(Entries entries, int firstEntry) {
            for (int i = 0; i < referenceTotal && in.sound(); i++) {
                int place = at(references, i);
                if (entries.placedAt(unitBegin + in.numberAt(place, 4), firstEntry) == NONE) {
                    in.refuse(MISSING, place);
                }
            }
            for (int e = firstEntry; e < entries.total() && in.sound(); e++) {
                entries.settleOrigin(e, firstEntry);
            }
        }
    }

    /** The ranges of all entries, those of one entry next to one another. */
    private static final class Ranges {
        private final long[] lows = new long[RANGES_MOST];
        private final long[] highs = new long[RANGES_MOST];
        private int total;
        private long base;

        void readAll(Cursor in, Sections sections, Image image) {
            total = 0;
            Entries entries = image.entries;
            for (int e = 0; e < ENTRIES_MOST && e < entries.total() && in.sound(); e++) {
                int first = total;
                long low = entries.valueOr(e, LOW, 0);
                if (entries.isTold(e, LOW) && entries.isTold(e, HIGH)) {
                    add(in, low, entries.valueOr(e, HIGH, 0), entries.placeOf(e));
                } else if (entries.isTold(e, LOW) && entries.isTold(e, HIGH_ABOVE_LOW)) {
                    long more = entries.valueOr(e, HIGH_ABOVE_LOW, 0);
                    add(in, low, above(low, more), entries.placeOf(e));
                } else if (entries.isTold(e, RANGE_LIST)) {
                    base = entries.valueOr(image.units.firstEntryOf(entries.unitOf(e)), LOW, 0);
                    readList(in, sections, entries.valueOr(e, RANGE_LIST, 0), entries.placeOf(e));
                }
                entries.setRanges(e, first, total - first);
            }
        }

        private void readList(Cursor in, Sections sections, long offset, int teller) {
            if (!sections.isIn(RNGLISTS, offset)) {
                in.refuse(MISSING, teller);
                return;
            }
            in.within(sections.beginOf(RNGLISTS) + (int) offset, sections.stopOf(RNGLISTS));
            boolean more = true;
            for (int step = 0; step < TAPE_MOST && more && in.sound(); step++) {
                more = readRow(in);
            }
        }

        /** Answers whether the list goes on. */
        private boolean readRow(Cursor in) {
            int row = in.place();
            int kind = (int) in.number(1);
            long first;
            switch (kind) {
                case 0:
                    return false;
                case 4:
                    first = above(base, in.uleb());
                    add(in, first, above(base, in.uleb()), row);
                    return true;
                case 5:
                    base = in.number(8);
                    if (base < 0) {
                        in.refuse(WRONG, row);
                    }
                    return true;
                case 6:
                    first = in.number(8);
                    add(in, first, in.number(8), row);
                    return true;
                case 7:
                    first = in.number(8);
                    add(in, first, above(first, in.uleb()), row);
                    return true;
                default:
                    in.refuse(WRONG, row);
                    return false;
            }
        }

        private void add(Cursor in, long low, long high, int where) {
            if (low < 0 || high < low) {
                in.refuse(WRONG, where);
            }
            if (total >= RANGES_MOST) {
                in.refuse(TOO_MANY, where);
            }
            if (!in.sound()) {
                return;
            }
            put(lows, total, low);
            put(highs, total, high);
            total++;
        }

        int total() {
            return total;
        }

        boolean oneHolds(int first, int number, long address) {
            for (int i = first; i < first + number && i < total; i++) {
                if (address >= at(lows, i) && address < at(highs, i)) {
                    return true;
                }
            }
            return false;
        }
    }

    /** The rows of the tables of lines of all units, and the machine whose programs make them. */
    private static final class Lines {
        private final int[] units = new int[ROWS_MOST];
        private final int[] files = new int[ROWS_MOST];
        private final int[] lines = new int[ROWS_MOST];
        private final int[] ends = new int[ROWS_MOST];
        private final long[] addresses = new long[ROWS_MOST];
        private int total;

        private int least;
        private int lineBase;
        private int lineRange;
        private int opcodeBase;
        private final int[] operands = new int[OPCODE_BASE_MOST];
        private int program;
        private int unit;

        private long address;
        private long file;
        private long line;
        /** How often the address and the line ran over 64 bits: such a one is no address, no line. */
        private int addressTurns;
        private int lineTurns;
        /** Whether the sequence has a row already. */
        private boolean begun;

        void readAll(Cursor in, Sections sections, Image image) {
            total = 0;
            for (int u = 0; u < UNITS_MOST && u < image.units.total() && in.sound(); u++) {
                int e = image.units.firstEntryOf(u);
                if (image.entries.isTold(e, LINES)) {
                    unit = u;
                    readTable(in, sections, image.units, image.entries.valueOr(e, LINES, 0));
                }
            }
        }

        private void readTable(Cursor in, Sections sections, Units table, long offset) {
            if (!sections.isIn(LINE, offset)) {
                in.refuse(MISSING, table.beginOf(unit));
                return;
            }
            in.within(sections.beginOf(LINE) + (int) offset, sections.stopOf(LINE));
            in.enterCounted();
            readHead(in);
            readOperands(in);
            readFiles(in, table, readDirectories(in));
            if (in.place() != program) {
                in.refuse(WRONG, in.place());
            }
            runProgram(in);
        }

        private void readHead(Cursor in) {
            in.numberBetween(2, 5, 5);
            in.numberBetween(1, 8, 8);
            in.numberBetween(1, 0, 0);
            int place = in.place();
            long length = in.number(4);
            program = in.place();
            if (in.hasLeft(length)) {
                program += (int) length;
            } else {
                in.refuse(CUT, place);
            }
            least = (int) in.number(1);
            in.numberBetween(1, 1, 1);
            in.numberBetween(1, 0, 1);
            lineBase = (byte) in.number(1);
            lineRange = in.numberBetween(1, 1, 255);
            opcodeBase = in.numberBetween(1, OPCODE_BASE_LEAST, OPCODE_BASE_MOST);
        }

        private void readOperands(Cursor in) {
            for (int opcode = 1; opcode < opcodeBase && in.sound(); opcode++) {
                if (opcode <= STANDARD_OPERANDS.length) {
                    int due = at(STANDARD_OPERANDS, opcode - 1);
                    put(operands, opcode, in.numberBetween(1, due, due));
                } else {
                    put(operands, opcode, (int) in.number(1));
                }
            }
        }

        /** Answers how many there are. */
        private long readDirectories(Cursor in) {
            in.numberBetween(1, 1, 1);
            in.expectUleb(1);
            in.expectUleb(FORM_TEXT);
            long number = in.uleb();
            // A number of 64 bits below 0 is a huge one: the table ends within its strings.
            for (int i = 0; i < TAPE_MOST && (number < 0 || i < number) && in.sound(); i++) {
                in.text();
            }
            return number;
        }

        private void readFiles(Cursor in, Units table, long directories) {
            in.numberBetween(1, 2, 2);
            in.expectUleb(1);
            in.expectUleb(FORM_TEXT);
            in.expectUleb(2);
            in.expectUleb(FORM_ULEB);
            int place = in.place();
            long number = in.uleb();
            if (number < 0 || number > FILES_MOST - table.fileTotal()) {
                in.refuse(TOO_MANY, place);
            }
            table.beginFiles(unit);
            for (int i = 0; i < FILES_MOST && i < number && in.sound(); i++) {
                int row = in.place();
                int length = in.text();
                long directory = in.uleb();
                if (directory < 0 || directory >= directories) {
                    in.refuse(MISSING, row);
                }
                table.addFile(unit, row, length);
            }
        }

        private void runProgram(Cursor in) {
            beginSequence();
            for (int step = 0; step < TAPE_MOST && in.place() < in.stop() && in.sound(); step++) {
                runOpcode(in);
            }
            if (begun) {
                in.refuse(CUT, in.stop());
            }
        }

        private void beginSequence() {
            setAddress(0);
            file = 1;
            line = 1;
            lineTurns = 0;
            begun = false;
        }

        private void runOpcode(Cursor in) {
            int place = in.place();
            int opcode = (int) in.number(1);
            if (opcode >= opcodeBase) {
                runSpecial(in, place, opcode - opcodeBase);
                return;
            }
            switch (opcode) {
                case 0:
                    runExtended(in, place);
                    break;
                case 1:
                    addRow(in, place, 0);
                    break;
                case 2:
                    advanceSteps(in.uleb());
                    break;
                case 3:
                    advanceLine(in.sleb());
                    break;
                case 4:
                    file = in.uleb();
                    break;
                case 8:
                    advanceSteps(rangesIn(255 - opcodeBase));
                    break;
                case 9:
                    advance(in.number(2));
                    break;
                default:
                    skipOperands(in, at(operands, opcode));
                    break;
            }
        }

        private int rangesIn(int steps) {
            return lineRange > 0 ? steps / lineRange : 0;
        }

        private void runSpecial(Cursor in, int place, int steps) {
            int ranges = rangesIn(steps);
            advanceSteps(ranges);
            advanceLine(lineBase + (steps - ranges * lineRange));
            addRow(in, place, 0);
        }

        private void setAddress(long value) {
            address = value;
            addressTurns = 0;
        }

        /** The number is one without sign: the address never becomes less. */
        private void advance(long more) {
            long sum = address + more;
            if (sum < address) {
                addressTurns++;
            }
            address = sum;
        }

        /** The product may have more than 64 bits: made of the halves it tells what lies above them. */
        private void advanceSteps(long steps) {
            long low = least * (steps & LOW_HALF);
            long high = least * (steps >>> 32) + (low >>> 32);
            addressTurns += (int) (high >>> 32);
            advance(least * steps);
        }

        private void advanceLine(long more) {
            long sum = line + more;
            if (more >= 0 && sum < line) {
                lineTurns++;
            } else if (more < 0 && sum > line) {
                lineTurns--;
            }
            line = sum;
        }

        private void runExtended(Cursor in, int place) {
            long length = in.uleb();
            if (length == 0) {
                in.refuse(WRONG, place);
            } else if (!in.hasLeft(length)) {
                in.refuse(CUT, place);
            }
            if (!in.sound()) {
                return;
            }
            int body = in.place();
            int kind = in.byteAt(body);
            in.within(body + (int) length, in.stop());
            if (kind == 1 && length != 1 || kind == 2 && length != 9) {
                in.refuse(WRONG, place);
            } else if (kind == 1) {
                addRow(in, place, 1);
                beginSequence();
            } else if (kind == 2) {
                setAddress(in.numberAt(body + 1, 8));
            }
        }

        private void skipOperands(Cursor in, int number) {
            for (int i = 0; i < number && in.sound(); i++) {
                in.uleb();
            }
        }

        private void addRow(Cursor in, int place, int endsHere) {
            long earliest = begun ? at(addresses, total - 1) : 0;
            boolean follows = addressTurns == 0 && address >= earliest;
            if (!follows || !isRegister(file) || lineTurns != 0 || !isRegister(line)) {
                in.refuse(WRONG, place);
            } else if (total >= ROWS_MOST) {
                in.refuse(TOO_MANY, place);
            }
            if (!in.sound()) {
                return;
            }
            put(units, total, unit);
            put(addresses, total, address);
            put(files, total, (int) file);
            put(lines, total, (int) line);
            put(ends, total, endsHere);
            total++;
            begun = true;
        }

        private static boolean isRegister(long value) {
            return value >= 0 && value <= REGISTER_MOST;
        }

        int total() {
            return total;
        }

        boolean has(int i) {
            return i >= 0 && i < total;
        }

        int unitOf(int i) {
            return at(units, i);
        }

        int fileOf(int i) {
            return at(files, i);
        }

        int lineOf(int i) {
            return at(lines, i);
        }

        boolean endsAt(int i) {
            return at(ends, i) == 1;
        }

        long addressOf(int i) {
            return at(addresses, i);
        }

        /** A row that ends no sequence has the next one of it behind itself, for each was ended. */
        int governing(int ofUnit, long sought) {
            for (int i = 0; i < ROWS_MOST - 1 && i < total - 1; i++) {
                boolean candidate = unitOf(i) == ofUnit && !endsAt(i);
                if (candidate && sought >= addressOf(i) && sought < addressOf(i + 1)) {
                    return i;
                }
            }
            return NONE;
        }
    }

    /** What was found of the address that was looked up last. */
    private static final class Lookup {
        /** The outermost first, as they are found. */
        private final int[] chain = new int[LEVELS_MOST];
        private int total;
        private int governing = NONE;
        private int symbol = NONE;
        private int above;

        void forget() {
            total = 0;
            governing = NONE;
            symbol = NONE;
        }

        int seek(Image image, long address) {
            forget();
            int e = image.functionHolding(address);
            for (int level = 0; level < LEVELS_MOST && e != NONE; level++) {
                if (image.entries.tagOf(e) != TAG_BLOCK) {
                    put(chain, total, e);
                    total++;
                }
                e = image.childHolding(e, address);
            }
            if (total > 0) {
                governing = image.lines.governing(image.entries.unitOf(entryOf(0)), address);
            } else {
                seekSymbol(image.symbols, address);
            }
            return total;
        }

        private void seekSymbol(Symbols symbols, long address) {
            symbol = symbols.holding(address);
            if (symbol != NONE) {
                above = (int) (address - symbols.valueOf(symbol));
            }
        }

        int entryOf(int i) {
            return i >= 0 && i < total ? at(chain, total - 1 - i) : NONE;
        }

        /** Only the innermost one is where the rows tell; each other one is where it calls. */
        int fileNumberOf(Image image, int i) {
            if (i > 0) {
                return (int) image.entries.valueOr(entryOf(i - 1), CALL_FILE, 0);
            }
            return governing == NONE ? 0 : image.lines.fileOf(governing);
        }

        int lineNumberOf(Image image, int i) {
            if (i > 0) {
                return (int) image.entries.valueOr(entryOf(i - 1), CALL_LINE, 0);
            }
            return governing == NONE ? 0 : image.lines.lineOf(governing);
        }

        /** Which of all files the i-th of the chain is in. */
        int fileOf(Image image, int i) {
            int e = entryOf(i);
            if (e == NONE) {
                return NONE;
            }
            return image.units.fileOf(image.entries.unitOf(e), fileNumberOf(image, i));
        }

        int symbolFound() {
            return symbol;
        }

        int aboveSymbol() {
            return above;
        }
    }
}
