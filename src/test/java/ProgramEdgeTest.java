/** The programs of part 5 of the terms, sentence by sentence: opcodes, registers and rows at their boundaries. */
public final class ProgramEdgeTest {
    private static final long MOST = Long.MAX_VALUE;
    private static final Bytes END = LineTable.endSequence();
    /** Three ways to a row: opcode 1, the special one that adds nothing, the end; each of so many bytes. */
    private static final Bytes[] ROWS = {new Bytes().u8(1), new Bytes().u8(13 + 5), END};

    public static void main(String[] args) {
        registersAtTheBegin();
        specialOpcodes();
        opcodesBelowTheBase();
        extendedHasOneByteAtLeast();
        extendedLiesInTheTable();
        extendedOneEndsTheSequence();
        extendedTwoIsTheAddress();
        extendedOthersDoNothing();
        steps();
        soManyUlebsAsTold();
        addressOfARowIsOne();
        addressIsNotBelowTheRowAhead();
        fileOfARow();
        lineOfARow();
        atMostSixHundredRows();
        sequenceIsEnded();
        Due.finish("ProgramEdgeTest");
    }

    private static AddressNamer taken(LineTable table) {
        return Due.taken("a program", Edge.lined(table.build()).build(), 1);
    }

    private static AddressNamer taken(Bytes program) {
        return taken(new LineTable().program(program));
    }

    private static void row(String what, AddressNamer x, int i, long address, int file, int line) {
        Due.is(what + ": ADDRESS of " + i, x.rowAt(i), address);
        Due.is(what + ": FILE of " + i, x.row(i, 1), file);
        Due.is(what + ": LINE of " + i, x.row(i, 2), line);
    }

    private static void program(String what, Bytes program, int place, int fault) {
        Edge.program(what, new LineTable().program(program), place, fault);
    }

    /** "REGISTERS at the begin of a SEQUENCE: ADDRESS 0, FILE 1, LINE 1." */
    private static void registersAtTheBegin() {
        Bytes away = new Bytes().add(LineTable.setAddress(77)).u8(3, 5, 4, 7);
        AddressNamer x = taken(new Bytes().u8(1).add(away).u8(1).add(END).u8(1).add(away).add(END).add(END));
        long[][] due = {{0, 1, 1, 0}, {77, 7, 6, 0}, {77, 7, 6, 1}, {0, 1, 1, 0}, {77, 7, 6, 1}, {0, 1, 1, 1}};
        for (int i = 0; i < due.length; i++) {
            row("registers", x, i, due[i][0], (int) due[i][1], (int) due[i][2]);
            Due.is("whether it ends", x.row(i, 3), due[i][3]);
        }
        Due.is("no more", x.count(6), due.length);
        AddressNamer y = taken(new Bytes().u8(1).add(END).add(away));
        Due.is("registers without a row", y.count(6), 2);
    }

    /** "An opcode x of b or more: with y = x - b the ADDRESS is l times (y / r, cut) more, the LINE base + y mod r". */
    private static void specialOpcodes() {
        int[][] heads = {{13, 14, 1, -5}, {10, 12, 4, -3}, {20, 1, 255, 0}, {10, 255, 1, 127}, {13, 245, 3, -128},
            {10, 2, 0, 1}};
        for (int[] h : heads) {
            for (int x = h[0]; x <= 255; x++) {
                if (x - h[0] < 3 || x > 253 || x % 17 == 0) {
                    special(h, x);
                }
            }
        }
    }

    private static void special(int[] h, int x) {
        LineTable t = new LineTable();
        t.opcodeBase = h[0];
        t.operands = java.util.Arrays.copyOf(new int[] {0, 1, 1, 1, 1, 0, 0, 0, 1}, h[0] - 1);
        t.range = h[1];
        t.least = h[2];
        t.base = h[3];
        t.program = new Bytes().add(LineTable.setAddress(1000)).u8(3).sleb(499).u8(x).add(END);
        int y = x - h[0];
        AddressNamer n = taken(t);
        Due.is("rows", n.count(6), 2);
        row("special " + x + " of base " + h[0] + ", range " + h[1], n, 0, 1000 + h[2] * (y / h[1]), 1,
                500 + h[3] + y % h[1]);
    }

    /** An opcode just below b is none of the special ones: there is no row by it. */
    private static void opcodesBelowTheBase() {
        for (int base = 11; base <= 20; base++) {
            LineTable t = new LineTable();
            t.opcodeBase = base;
            t.operands = java.util.Arrays.copyOf(new int[] {0, 1, 1, 1, 1, 0, 0, 0, 1}, base - 1);
            t.base = 0;
            t.program = new Bytes().u8(base - 1).add(END);
            Due.is("just below the base", taken(t).count(6), 1);
            t.program = new Bytes().u8(base).add(END);
            Due.is("the base", taken(t).count(6), 2);
            t.program = new Bytes().u8(base + 1).add(END);
            Due.is("just above the base", taken(t).count(6), 2);
        }
    }

    /** "0: an ULEB n, n bytes (1 at least; else 2, at the 0)". */
    private static void extendedHasOneByteAtLeast() {
        program("n of 0", new Bytes().u8(6, 0, 0), 1, 2);
        program("n of 0 with bytes behind", new Bytes().u8(6, 0, 0, 1, 1), 1, 2);
        program("n of 0 in two bytes", new Bytes().u8(6, 0, 128, 0), 1, 2);
        program("n of 1", new Bytes().u8(6, 0, 1, 9), 0, Edge.WELL);
        program("n of 2", new Bytes().u8(6, 0, 2, 9, 9), 0, Edge.WELL);
    }

    /** "(not in the table: 1, at the 0)". */
    private static void extendedLiesInTheTable() {
        for (int n = 1; n <= 12; n++) {
            Bytes body = new Bytes().times(n, new Bytes().u8(9));
            program("n of " + n, new Bytes().u8(6, 0, n).add(body), 0, Edge.WELL);
            program("one byte less", new Bytes().u8(6, 0, n).add(body.part(1, n)), 1, 1);
            program("nothing", new Bytes().u8(6, 0, n), 1, 1);
        }
        long[] far = {1L << 31, 1L << 32, (1L << 32) + 1, MOST, Long.MIN_VALUE, -1};
        for (long n : far) {
            program("n of " + n, new Bytes().u8(6, 0).uleb(n).u8(1), 1, 1);
        }
        LineTable cut = new LineTable().program(new Bytes().u8(0, 2, 9));
        Edge.table("bytes behind the table", cut.build().u8(9), cut.programPlace(), 1);
        program("an end of which nothing is there", new Bytes().u8(0, 1), 0, 1);
        program("an address of which one byte isn't there", new Bytes().u8(0, 9, 2, 1, 1, 1, 1, 1, 1, 1), 0, 1);
    }

    /** "the first of them 1: a ROW that ENDS the SEQUENCE (n is 1; else 2, at the 0)". */
    private static void extendedOneEndsTheSequence() {
        AddressNamer x = taken(new Bytes().u8(1, 0, 1, 1));
        Due.is("it is a row", x.count(6), 2);
        Due.is("the one ahead doesn't end", x.row(0, 3), 0);
        Due.is("it ends", x.row(1, 3), 1);
        for (int n = 2; n <= 10; n++) {
            program("an end of " + n, new Bytes().u8(6, 0, n, 1).times(n - 1, new Bytes().u8(0)), 1, 2);
        }
        program("an end with an address that is none", new Bytes().add(LineTable.setAddress(-1)).u8(0, 2, 1, 1), 11, 2);
    }

    /** "2: the ADDRESS is these 8 (n is 9; else likewise)". */
    private static void extendedTwoIsTheAddress() {
        for (int n = 1; n <= 12; n++) {
            program("an address of " + n, new Bytes().u8(6, 0, n, 2).times(n - 1, new Bytes().u8(1)), 1,
                    n == 9 ? Edge.WELL : 2);
        }
        long[] addresses = {0, 1, 0x0102030405060708L, MOST};
        for (long a : addresses) {
            row("an address", taken(new Bytes().u8(0, 9, 2).u64(a).add(END)), 0, a, 1, 1);
        }
        row("the last one", taken(new Bytes().add(LineTable.setAddress(9)).add(LineTable.setAddress(5)).add(END)), 0,
                5, 1, 1);
    }

    /** "others nothing". */
    private static void extendedOthersDoNothing() {
        int[] kinds = {0, 3, 4, 127, 128, 255};
        for (int kind : kinds) {
            for (int n = 1; n <= 10; n++) {
                AddressNamer x = taken(new Bytes().u8(0, n, kind).times(n - 1, new Bytes().u8(1)).add(END));
                Due.is("no row by " + kind, x.count(6), 1);
                row("other", x, 0, 0, 1, 1);
            }
        }
    }

    private static void step(String what, int least, Bytes steps, long address, int file, int line) {
        LineTable t = new LineTable().program(new Bytes().add(steps).add(END));
        t.least = least;
        AddressNamer x = taken(t);
        Due.is(what + ": one row", x.count(6), 1);
        row(what, x, 0, address, file, line);
    }

    /** The opcodes 2 to 9, one by one. */
    private static void steps() {
        int[] leasts = {0, 1, 2, 255};
        for (int l : leasts) {
            step("2", l, new Bytes().u8(2).uleb(0), 0, 1, 1);
            step("2", l, new Bytes().u8(2).uleb(1), l, 1, 1);
            step("2", l, new Bytes().u8(2).uleb(300).u8(2).uleb(1), l * 301L, 1, 1);
            step("3", l, new Bytes().u8(3).sleb(-1), 0, 1, 0);
            step("3", l, new Bytes().u8(3).sleb(0), 0, 1, 1);
            step("3", l, new Bytes().u8(3).sleb(300).u8(3).sleb(-100), 0, 1, 201);
            step("4", l, new Bytes().u8(4).uleb(0), 0, 0, 1);
            step("4", l, new Bytes().u8(4).uleb(300), 0, 300, 1);
            step("5", l, new Bytes().u8(5).uleb(-1), 0, 1, 1);
            step("6, 7", l, new Bytes().u8(6, 7), 0, 1, 1);
            step("8", l, new Bytes().u8(8), l * 17L, 1, 1);
            step("8 twice", l, new Bytes().u8(8, 8), l * 34L, 1, 1);
            step("9", l, new Bytes().u8(9).u16(0), 0, 1, 1);
            step("9", l, new Bytes().u8(9).u16(258), 258, 1, 1);
            step("9", l, new Bytes().u8(9).u16(65535), 65535, 1, 1);
        }
        int[][] heads = {{10, 245}, {10, 246}, {10, 244}, {20, 235}, {20, 236}, {13, 1}, {13, 121}, {13, 122}};
        for (int[] h : heads) {
            LineTable t = new LineTable().program(new Bytes().u8(8).add(END));
            t.opcodeBase = h[0];
            t.operands = java.util.Arrays.copyOf(new int[] {0, 1, 1, 1, 1, 0, 0, 0, 1}, h[0] - 1);
            t.range = h[1];
            row("8 of base " + h[0] + ", range " + h[1], taken(t), 0, (255 - h[0]) / h[1], 1, 1);
        }
    }

    /** "Those from 10 on below b: so many ULEB as told." */
    private static void soManyUlebsAsTold() {
        int[] numbers = {0, 1, 2, 255};
        for (int opcode = 10; opcode < 20; opcode++) {
            for (int number : numbers) {
                LineTable t = new LineTable();
                t.opcodeBase = 20;
                t.operands = java.util.Arrays.copyOf(new int[] {0, 1, 1, 1, 1, 0, 0, 0, 1}, 19);
                t.operands[opcode - 1] = number;
                Bytes ulebs = new Bytes().times(number, new Bytes().padded(1, 2));
                t.program = new Bytes().u8(opcode).add(ulebs).add(END);
                Due.is("opcode " + opcode + " of " + number, taken(t).count(6), 1);
                if (number > 0) {
                    t.program = new Bytes().u8(opcode).add(ulebs.part(2, ulebs.size()));
                    Edge.program("one too few", t, 1 + 2 * (number - 1), 1);
                }
            }
        }
    }

    /** "The ADDRESS is one whenever a ROW comes (else 2, at the opcode)". */
    private static void addressOfARowIsOne() {
        long[] addresses = {0, 1, MOST - 1, MOST, Long.MIN_VALUE, -1};
        for (Bytes row : ROWS) {
            for (long a : addresses) {
                Bytes p = new Bytes().add(LineTable.setAddress(a)).add(row).add(row == END ? new Bytes() : END);
                program("a row at " + a, p, 11, a < 0 ? 2 : Edge.WELL);
            }
            Bytes greatest = LineTable.setAddress(MOST - 1);
            Bytes[] steps = {new Bytes().u8(2, 1), new Bytes().u8(2, 2), new Bytes().u8(9, 1, 0),
                new Bytes().u8(9, 2, 0), new Bytes().u8(8)};
            int[] faults = {0, 2, 0, 2, 2};
            for (int i = 0; i < steps.length; i++) {
                program("a step to the greatest", new Bytes().add(greatest).add(steps[i]).add(row)
                        .add(row == END ? new Bytes() : END), 11 + steps[i].size(), faults[i]);
            }
        }
        program("a special opcode's own step", new Bytes().add(LineTable.setAddress(MOST)).u8(13 + 14 + 5).add(END),
                11, 2);
        program("none, but no row comes", LineTable.setAddress(-1), 0, Edge.WELL);
    }

    /** "in a SEQUENCE not below that of the ROW ahead (else 2, at the opcode)". */
    private static void addressIsNotBelowTheRowAhead() {
        for (Bytes row : ROWS) {
            for (long a = 98; a <= 102; a++) {
                Bytes p = new Bytes().add(LineTable.setAddress(100)).u8(1).add(LineTable.setAddress(a)).add(row)
                        .add(row == END ? new Bytes() : END);
                program("behind 100 a row at " + a, p, 23, a < 100 ? 2 : Edge.WELL);
            }
            Bytes next = new Bytes().add(LineTable.setAddress(100)).add(END).add(LineTable.setAddress(1)).add(row)
                    .add(row == END ? new Bytes() : END);
            program("of another sequence", next, 0, Edge.WELL);
        }
        Bytes back = new Bytes().add(LineTable.setAddress(100)).u8(1).add(LineTable.setAddress(1))
                .add(LineTable.setAddress(100)).u8(1).add(END);
        program("below, but no row comes there", back, 0, Edge.WELL);
        Bytes third = new Bytes().u8(1).add(LineTable.setAddress(9)).u8(1).add(LineTable.setAddress(8)).u8(1);
        program("the row just ahead", third, 24, 2);
    }

    /** "FILE there is 0 .. 1000000 (else 2, likewise)". */
    private static void fileOfARow() {
        long[] files = {0, 1, 999999, 1000000, 1000001, 1L << 31, 1L << 32, (1L << 32) + 1, MOST, Long.MIN_VALUE, -1};
        for (Bytes row : ROWS) {
            for (long f : files) {
                Bytes p = new Bytes().u8(4).uleb(f);
                program("FILE " + f, new Bytes().add(p).add(row).add(row == END ? new Bytes() : END), p.size(),
                        f >= 0 && f <= 1000000 ? Edge.WELL : 2);
                program("FILE " + f + ", no row", p, 0, Edge.WELL);
            }
        }
    }

    /** "LINE there is 0 .. 1000000 (else 2, likewise)". */
    private static void lineOfARow() {
        long[] lines = {-1, 0, 1, 999999, 1000000, 1000001, 1L << 31, 1L << 32, (1L << 32) + 1, -(1L << 32), MOST,
            Long.MIN_VALUE + 1};
        for (Bytes row : ROWS) {
            for (long line : lines) {
                Bytes p = new Bytes().u8(3).sleb(line - 1);
                program("LINE " + line, new Bytes().add(p).add(row).add(row == END ? new Bytes() : END), p.size(),
                        line >= 0 && line <= 1000000 ? Edge.WELL : 2);
                program("LINE " + line + ", no row", p, 0, Edge.WELL);
            }
        }
        program("-1 by a special opcode", new Bytes().u8(13 + 3).add(END), 0, 2);
        program("0 by a special opcode", new Bytes().u8(13 + 4).add(END), 0, Edge.WELL);
        program("1000000 by a special opcode", new Bytes().u8(3).sleb(999998).u8(13 + 6).add(END), 0, Edge.WELL);
        program("1000001 by a special opcode", new Bytes().u8(3).sleb(999998).u8(13 + 7).add(END), 4, 2);
    }

    /** "At most 600 ROWS of all tables (else 4, at the opcode)." */
    private static void atMostSixHundredRows() {
        for (int number = 599; number <= 601; number++) {
            Bytes p = new Bytes().times(number - 1, new Bytes().u8(1)).add(END);
            program(number + " rows", p, 600, number > 600 ? 4 : Edge.WELL);
        }
        Bytes full = new Bytes().times(600, new Bytes().u8(1));
        for (Bytes row : ROWS) {
            program("the 601st", new Bytes().add(full).add(row), 600, 4);
            program("the 601st with FILE 1000001", new Bytes().add(full).u8(4).uleb(1000001).add(row), 604, 2);
        }
        Due.is("600 rows", taken(new Bytes().times(599, new Bytes().u8(1)).add(END)).count(6), 600);
        Bytes codes = new Bytes().add(Dwarf.code(1, 17, 0, 16, 23)).u8(0);
        for (int number = 299; number <= 301; number++) {
            LineTable first = new LineTable().program(new Bytes().times(299, new Bytes().u8(1)).add(END));
            LineTable second = new LineTable().program(new Bytes().times(number - 1, new Bytes().u8(1)).add(END));
            int begin = first.build().size();
            Bytes info = new Bytes().add(Dwarf.unit(new Bytes().u8(1).u32(0)))
                    .add(Dwarf.unit(new Bytes().u8(1).u32(begin)));
            Edge.ask("300 and " + number, new ElfFile().add(".debug_abbrev", codes).add(".debug_info", info)
                    .add(".debug_line", new Bytes().add(first.build()).add(second.build())), ".debug_line",
                    begin + second.programPlace() + 300, number > 300 ? 4 : Edge.WELL);
        }
    }

    /** "If a ROW comes whose SEQUENCE isn't ENDED: 1, at the program's end." */
    private static void sequenceIsEnded() {
        program("ended", new Bytes().u8(1).add(END), 0, Edge.WELL);
        program("not ended", new Bytes().u8(1), 1, 1);
        program("not ended by a special opcode", new Bytes().u8(20), 1, 1);
        program("not ended, then other opcodes", new Bytes().u8(1, 6, 7, 2, 5), 5, 1);
        program("the second not ended", new Bytes().u8(1).add(END).u8(1), 5, 1);
        program("no row behind the end", new Bytes().u8(1).add(END).u8(2, 5, 6), 0, Edge.WELL);
        program("no row at all", new Bytes().u8(2, 5, 6), 0, Edge.WELL);
        Bytes codes = new Bytes().add(Dwarf.code(1, 17, 0, 16, 23)).u8(0);
        LineTable open = new LineTable().program(new Bytes().u8(1));
        LineTable next = new LineTable().program(END);
        int begin = open.build().size();
        Bytes info = new Bytes().add(Dwarf.unit(new Bytes().u8(1).u32(0)))
                .add(Dwarf.unit(new Bytes().u8(1).u32(begin)));
        Edge.ask("an end in another table", new ElfFile().add(".debug_abbrev", codes).add(".debug_info", info)
                .add(".debug_line", new Bytes().add(open.build()).add(next.build())), ".debug_line", begin, 1);
    }
}
