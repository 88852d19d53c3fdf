/** Part 5 of the terms, sentence by sentence: tables of lines and their programs at their boundaries. */
public final class LineEdgeTest {
    private static final long MOST = Long.MAX_VALUE;

    public static void main(String[] args) {
        offsetOfATable();
        unitByUnit();
        lengthOfATable();
        firstNumbers();
        lengthOfTheHead();
        numbersOfTheHead();
        opcodeBase();
        howManyUlebsOpcodesHave();
        kindsOfDirectories();
        howManyDirectories();
        kindsOfFiles();
        atMostFortyFiles();
        directoryOfAFile();
        headEndsWhereItsLengthTells();
        programEndsAtTheTablesEnd();
        Due.finish("LineEdgeTest");
    }

    private static final Bytes CODES = new Bytes().add(Dwarf.code(1, 17, 0, 16, 23)).add(Dwarf.code(2, 17, 0)).u8(0);

    private static void told(String what, long offset, Bytes lines, int fault) {
        Bytes info = new Bytes().add(Dwarf.unit(new Bytes().u8(2))).add(Dwarf.unit(new Bytes().u8(1).u32(offset)));
        Edge.ask(what, new ElfFile().add(".debug_abbrev", CODES).add(".debug_info", info).add(".debug_line", lines),
                ".debug_info", 13, fault);
    }

    /** "a table in .debug_line at that offset (not in it: 3, at the UNIT's begin)". */
    private static void offsetOfATable() {
        Bytes table = new LineTable().build();
        int size = table.size();
        Bytes two = new Bytes().add(table).add(table);
        told("at 0", 0, two, Edge.WELL);
        told("at the second table", size, two, Edge.WELL);
        told("just behind", 2 * size, two, 3);
        told("one further", 2 * size + 1, two, 3);
        told("at 2147483648", 1L << 31, two, 3);
        told("at -1", -1, two, 3);
        ElfFile last = Dwarf.file(CODES, new Bytes().u8(1).u32(2 * size - 1)).add(".debug_line", two);
        Edge.ask("at the last byte", last, ".debug_line", 2 * size - 1, 1);
    }

    /** "Then, UNIT by UNIT, each that has LINES". */
    private static void unitByUnit() {
        Bytes info = new Bytes().add(Dwarf.unit(new Bytes().u8(1).u32(0))).add(Dwarf.unit(new Bytes().u8(2)))
                .add(Dwarf.unit(new Bytes().u8(1).u32(0)));
        LineTable t = new LineTable().program(LineTable.endSequence());
        ElfFile elf = new ElfFile().add(".debug_abbrev", CODES).add(".debug_info", info)
                .add(".debug_line", t.build());
        byte[] file = elf.build();
        AddressNamer x = Due.taken("three units", file, 3);
        Due.is("rows of two", x.count(6), 2);
        Due.is("files of two", x.count(7), 4);
        Due.is("the first row's unit", x.row(0, 0), 0);
        Due.is("the second row's unit", x.row(1, 0), 2);
        int at = elf.placeOf(".debug_info");
        byte[] wrong = Dwarf.with(Dwarf.with(file, at + 13, 255), at + 17 + 13 + 13, 255);
        Due.refused("the first unit's is asked first", wrong, 3, at);
        Due.refused("the third unit's", Dwarf.with(file, at + 17 + 13 + 13, 255), 3, at + 17 + 13);
    }

    private static Bytes withLength(long length) {
        Bytes table = new LineTable().build();
        return new Bytes().u32(length).add(table.part(4, table.size()));
    }

    /** "length (4 bytes: as of a UNIT)". */
    private static void lengthOfATable() {
        int behind = new LineTable().build().size() - 4;
        Edge.table("just so many", withLength(behind), 0, Edge.WELL);
        Edge.table("one more", withLength(behind + 1), 0, 1);
        Edge.table("one more, which is there", withLength(behind + 1).u8(6), 0, Edge.WELL);
        Edge.table("one less", withLength(behind - 1), 8, 1);
        Edge.table("nothing", withLength(0), 4, 1);
        Edge.table("2147483648", withLength(1L << 31), 0, 1);
        Edge.table("4294967279", withLength(4294967279L), 0, 1);
        Edge.table("4294967280", withLength(4294967280L), 0, 2);
        Edge.table("4294967281", withLength(4294967281L), 0, 2);
        Edge.table("4294967295", withLength(4294967295L), 0, 2);
        for (int bytes = 1; bytes < 4; bytes++) {
            Edge.table(bytes + " bytes of a length", new Bytes().times(bytes, new Bytes().u8(0)), 0, 1);
        }
    }

    /** "version (2: 5), size of ADDRESSES (1: 8), 1 byte (0) (each else 2, at its place)". */
    private static void firstNumbers() {
        int[] versions = {0, 4, 5, 6, 261, 1280, 65535};
        for (int v : versions) {
            LineTable t = new LineTable();
            t.version = v;
            Edge.table("version " + v, t.build(), 4, v == 5 ? Edge.WELL : 2);
        }
        int[] sizes = {0, 4, 7, 8, 9, 136, 255};
        for (int s : sizes) {
            LineTable t = new LineTable();
            t.addressSize = s;
            Edge.table("addresses of " + s, t.build(), 6, s == 8 ? Edge.WELL : 2);
        }
        int[] others = {0, 1, 128, 255};
        for (int o : others) {
            LineTable t = new LineTable();
            t.segment = o;
            Edge.table("byte " + o, t.build(), 7, o == 0 ? Edge.WELL : 2);
        }
    }

    /** "length of the head (4: how many bytes there are from behind it to the program; not in the table: 1, at it)". */
    private static void lengthOfTheHead() {
        for (int program = 0; program <= 2; program++) {
            LineTable t = new LineTable().program(new Bytes().times(program, new Bytes().u8(6)));
            int end = t.programPlace();
            Edge.table("just so many", t.build(), 0, Edge.WELL);
            t.headMore = program;
            Edge.table("up to the table's end", t.build(), end, program == 0 ? Edge.WELL : 2);
            t.headMore = program + 1;
            Edge.table("one more", t.build(), 8, 1);
            t.headMore = 1 << 30;
            Edge.table("far more", t.build(), 8, 1);
            t.headMore = -1 - (end - 12);
            Edge.table("4294967295", t.build(), 8, 1);
        }
    }

    /** "1 byte (1), default (0 or 1), line range r (not 0) (each else 2, at its place)"; l and the base are free. */
    private static void numbersOfTheHead() {
        int[] values = {0, 1, 2, 127, 128, 255};
        for (int v : values) {
            LineTable least = new LineTable();
            least.least = v;
            Edge.table("least length " + v, least.build(), 12, Edge.WELL);
            LineTable operations = new LineTable();
            operations.operations = v;
            Edge.table("operations " + v, operations.build(), 13, v == 1 ? Edge.WELL : 2);
            LineTable statement = new LineTable();
            statement.isStatement = v;
            Edge.table("default " + v, statement.build(), 14, v < 2 ? Edge.WELL : 2);
            LineTable base = new LineTable();
            base.base = v;
            Edge.table("line base " + v, base.build(), 15, Edge.WELL);
            LineTable range = new LineTable();
            range.range = v;
            Edge.table("line range " + v, range.build(), 16, v > 0 ? Edge.WELL : 2);
        }
    }

    private static LineTable withOpcodeBase(int base) {
        LineTable t = new LineTable();
        t.opcodeBase = base;
        int[] first = t.operands;
        t.operands = new int[base - 1];
        System.arraycopy(first, 0, t.operands, 0, Math.min(first.length, base - 1));
        return t;
    }

    /** "opcode base b (1: 10 .. 20), b - 1 bytes". */
    private static void opcodeBase() {
        for (int base = 1; base <= 40; base++) {
            Edge.table("opcode base " + base, withOpcodeBase(base).build(), 17,
                    base >= 10 && base <= 20 ? Edge.WELL : 2);
        }
        int[] others = {0, 138, 255};
        for (int base : others) {
            LineTable t = new LineTable();
            t.opcodeBase = base;
            Edge.table("opcode base " + base, t.build(), 17, 2);
        }
    }

    /** "how many ULEB the opcodes 1, 2, .. have (1 .. 9: 0 1 1 1 1 0 0 0 1; each else 2, at its place)". */
    private static void howManyUlebsOpcodesHave() {
        int[] due = {0, 1, 1, 1, 1, 0, 0, 0, 1};
        for (int i = 0; i < 19; i++) {
            for (int number = 0; number <= 255; number += number < 3 ? 1 : 63) {
                LineTable t = withOpcodeBase(20);
                t.operands[i] = number;
                boolean well = i >= 9 || number == due[i];
                Edge.table("opcode " + (i + 1) + " of " + number, t.build(), 18 + i, well ? Edge.WELL : 2);
            }
        }
    }

    private static void directories(String what, Bytes kinds, int place, int fault) {
        LineTable t = new LineTable();
        t.directoryKinds = kinds;
        Edge.table(what, t.build(), t.kindsPlace() + place, fault);
    }

    /** "kinds of rows of directories (1: 1; then ULEB 1, ULEB 8)", "Other kinds: 2, at the first that is another". */
    private static void kindsOfDirectories() {
        directories("just these", new Bytes().u8(1, 1, 8), 0, Edge.WELL);
        int[] others = {0, 2, 255};
        for (int o : others) {
            directories(o + " kinds", new Bytes().u8(o, 1, 8), 0, 2);
        }
        long[] firsts = {0, 2, 129, (1L << 32) + 1, (1L << 63) + 1};
        for (long f : firsts) {
            directories("kind " + f, new Bytes().u8(1).uleb(f, 8), 1, 2);
        }
        long[] seconds = {0, 7, 9, 14, 136, (1L << 32) + 8};
        for (long s : seconds) {
            directories("form " + s, new Bytes().u8(1).uleb(1, s), 2, 2);
        }
        directories("the first of all", new Bytes().u8(2, 2, 9), 0, 2);
        directories("the first of two", new Bytes().u8(1, 2, 9), 1, 2);
    }

    /** "how many (ULEB), each a STRING". */
    private static void howManyDirectories() {
        for (int number = 0; number <= 3; number++) {
            LineTable t = new LineTable();
            t.directories = new Bytes().uleb(number).times(number, new Bytes().text("d"));
            t.files = new Bytes().uleb(0);
            Edge.table(number + " directories", t.build(), 0, Edge.WELL);
            t.directories = new Bytes().uleb(number + 1).times(number, new Bytes().text("d"));
            t.fileKinds = new Bytes();
            t.files = new Bytes();
            int behind = t.kindsPlace() + 3 + t.directories.size();
            Edge.table("one too few", t.build(), behind, 1);
            t.directories.raw("d");
            Edge.table("one that isn't ended", t.build(), behind, 1);
        }
    }

    private static void files(String what, Bytes kinds, int place, int fault) {
        LineTable t = new LineTable();
        t.fileKinds = kinds;
        Edge.table(what, t.build(), t.kindsPlace() + 7 + place, fault);
    }

    /** "those of FILES (1: 2; then ULEB 1, 8, 2, 15)". */
    private static void kindsOfFiles() {
        long[] due = {1, 8, 2, 15};
        files("just these", new Bytes().u8(2).uleb(due), 0, Edge.WELL);
        int[] others = {0, 1, 3, 255};
        for (int o : others) {
            files(o + " kinds", new Bytes().u8(o).uleb(due), 0, 2);
        }
        for (int i = 0; i < due.length; i++) {
            long[] wrong = {due[i] - 1, due[i] + 1, due[i] + (1L << 32)};
            for (long w : wrong) {
                long[] told = due.clone();
                told[i] = w;
                files("number " + i + " is " + w, new Bytes().u8(2).uleb(told), 1 + i, 2);
            }
            files("from " + i + " on", new Bytes().u8(2).uleb(due).part(0, 1 + i).u8(99, 99, 99, 99), 1 + i, 2);
        }
    }

    private static LineTable withFiles(int number) {
        LineTable t = new LineTable();
        t.files = new Bytes().uleb(number).times(number, new Bytes().text("f").uleb(0));
        return t;
    }

    /** "how many (ULEB; at most 40 of all tables, else 4, at it)". */
    private static void atMostFortyFiles() {
        int at = new LineTable().kindsPlace() + 12;
        int[] numbers = {0, 1, 39, 40, 41};
        for (int number : numbers) {
            Edge.table(number + " files", withFiles(number).build(), at, number > 40 ? 4 : Edge.WELL);
        }
        long[] far = {41, 1L << 32, MOST, Long.MIN_VALUE, -1};
        for (long number : far) {
            LineTable t = new LineTable();
            t.files = new Bytes().uleb(number);
            Edge.table(number + " files", t.build(), at, 4);
        }
        for (int number = 19; number <= 21; number++) {
            Bytes first = withFiles(20).build();
            Bytes info = new Bytes().add(Dwarf.unit(new Bytes().u8(1).u32(0)))
                    .add(Dwarf.unit(new Bytes().u8(1).u32(first.size())));
            Edge.ask("20 and " + number, new ElfFile().add(".debug_abbrev", CODES).add(".debug_info", info)
                    .add(".debug_line", new Bytes().add(first).add(withFiles(number).build())), ".debug_line",
                    first.size() + at, number > 20 ? 4 : Edge.WELL);
        }
        Due.is("40 of one table", Due.taken("40", Edge.lined(withFiles(40).build()).build(), 1).count(7), 40);
    }

    /** "each a STRING and the number of its directory (ULEB; none such: 3, at the row)". */
    private static void directoryOfAFile() {
        for (int directories = 0; directories <= 2; directories++) {
            long[] numbers = {0, 1, 2, 3, 1L << 32, Long.MIN_VALUE, -1};
            for (long number : numbers) {
                LineTable t = new LineTable();
                t.directories = new Bytes().uleb(directories).times(directories, new Bytes().text("d"));
                t.files = new Bytes().uleb(1).text("abc").uleb(number);
                Edge.table("directory " + number + " of " + directories, t.build(),
                        t.kindsPlace() + 3 + t.directories.size() + 5 + 1,
                        number >= 0 && number < directories ? Edge.WELL : 3);
            }
        }
        LineTable second = new LineTable();
        second.files = new Bytes().uleb(2).text("abc").uleb(0).text("d").uleb(1);
        Edge.table("at the second row", second.build(), second.kindsPlace() + 12 + 1 + 5, 3);
    }

    /** "The head ends just where its length tells (else 2, where it ended)". */
    private static void headEndsWhereItsLengthTells() {
        for (int more = -3; more <= 3; more++) {
            LineTable t = new LineTable().program(new Bytes().u8(6, 6, 6, 6));
            t.headMore = more;
            Edge.table(more + " more", t.build(), t.programPlace(), more == 0 ? Edge.WELL : 2);
        }
    }

    /** "the program at the table's end": what stands behind it isn't read. */
    private static void programEndsAtTheTablesEnd() {
        LineTable t = new LineTable().program(LineTable.endSequence());
        AddressNamer x = Due.taken("a row behind", Edge.lined(t.build().u8(1)).build(), 1);
        Due.is("one row", x.count(6), 1);
        AddressNamer none = Due.taken("no program", Edge.lined(new LineTable().build()).build(), 1);
        Due.is("no row", none.count(6), 0);
    }
}
