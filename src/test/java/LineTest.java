/** Tables of lines and their programs (part 5 of the terms; promises 5, 6, 9, 10, 16). */
public final class LineTest {
    private static final Bytes CODE = new Bytes().add(Dwarf.code(1, 17, 0, 16, 23)).u8(0);

    public static void main(String[] args) {
        told();
        headFaults();
        kinds();
        headEnd();
        files();
        opcodes();
        special();
        otherOpcodes();
        extended();
        rowFaults();
        limits();
        severalUnits();
        Due.finish("LineTest");
    }

    private static ElfFile elf(Bytes table) {
        return Dwarf.file(CODE, new Bytes().u8(1).u32(0)).add(".debug_line", table);
    }

    private static AddressNamer taken(String what, LineTable table) {
        return Due.taken(what, elf(table.build()).build(), 1);
    }

    private static void refused(String what, Bytes table, int fault, int place) {
        ElfFile elf = elf(table);
        byte[] file = elf.build();
        Due.refused(what, file, fault, elf.placeOf(".debug_line") + place);
    }

    /** A program that is refused, at a place counted from the program's begin. */
    private static void program(String what, Bytes program, int fault, int place) {
        LineTable t = new LineTable().program(program);
        refused(what, t.build(), fault, t.programPlace() + place);
    }

    private static void rows(String what, LineTable table, long[][] due) {
        AddressNamer x = taken(what, table);
        Due.is(what + ": count(6)", x.count(6), due.length);
        for (int i = 0; i < due.length; i++) {
            Due.is(what + ": rowAt(" + i + ")", x.rowAt(i), due[i][0]);
            Due.is(what + ": file of " + i, x.row(i, 1), due[i][1]);
            Due.is(what + ": line of " + i, x.row(i, 2), due[i][2]);
            Due.is(what + ": end of " + i, x.row(i, 3), due[i][3]);
            Due.is(what + ": unit of " + i, x.row(i, 0), 0);
            Due.is(what + ": row(.., 4)", x.row(i, 4), -1);
            Due.is(what + ": row(.., -1)", x.row(i, -1), -1);
        }
        for (int i : new int[] {-1, due.length, Integer.MAX_VALUE, Integer.MIN_VALUE}) {
            Due.is(what + ": rowAt(" + i + ")", x.rowAt(i), -1);
            for (int k = 0; k < 4; k++) {
                Due.is(what + ": row(" + i + ", " + k + ")", x.row(i, k), -1);
            }
        }
    }

    private static void told() {
        ElfFile none = Dwarf.file(CODE, new Bytes().u8(1).u32(0));
        byte[] file = none.build();
        Due.refused("no .debug_line", file, 3, none.placeOf(".debug_info"));
        Bytes table = new LineTable().build();
        ElfFile elf = Dwarf.file(CODE, new Bytes().u8(1).u32(table.size())).add(".debug_line", table);
        file = elf.build();
        Due.refused("an offset not in it", file, 3, elf.placeOf(".debug_info"));
        Bytes six = new Bytes().add(Dwarf.code(1, 17, 0, 16, 6)).u8(0);
        Due.taken("LINES by form 6", Dwarf.file(six, new Bytes().u8(1).u32(99)).build(), 1);
        Bytes inner = new Bytes().add(Dwarf.code(1, 17, 1)).add(Dwarf.code(2, 17, 0, 16, 23)).u8(0);
        Due.taken("LINES of another entry", Dwarf.file(inner, new Bytes().u8(1, 2).u32(99).u8(0)).build(), 2);
        Bytes shifted = new Bytes().u8(9, 9, 9).add(table).u8(9);
        AddressNamer x = Due.taken("a table at 3",
                Dwarf.file(CODE, new Bytes().u8(1).u32(3)).add(".debug_line", shifted).build(), 1);
        Due.is("count(7)", x.count(7), 2);
    }

    private static void headFaults() {
        Bytes good = new LineTable().build();
        Object[][] faults = {
            {"length", 0, new int[] {255, 255, 255, 255}, 2, 0}, {"length", 0, new int[] {240, 255, 255, 255}, 2, 0},
            {"length", 0, new int[] {239, 255, 255, 255}, 1, 0}, {"length", 0, new int[] {good.size() - 3}, 1, 0},
            {"no version", 0, new int[] {1}, 1, 4}, {"version", 4, new int[] {4}, 2, 4},
            {"version", 5, new int[] {1}, 2, 4}, {"size", 6, new int[] {4}, 2, 6}, {"segment", 7, new int[] {1}, 2, 7},
            {"version", 4, new int[] {6}, 2, 4}, {"size", 6, new int[] {9}, 2, 6},
            {"head", 8, new int[] {good.size() - 11}, 1, 8}, {"head", 11, new int[] {255}, 1, 8},
            {"operations", 13, new int[] {0}, 2, 13}, {"operations", 13, new int[] {2}, 2, 13},
            {"default", 14, new int[] {2}, 2, 14}, {"default", 14, new int[] {255}, 2, 14},
            {"range", 16, new int[] {0}, 2, 16}, {"opcode base", 17, new int[] {9}, 2, 17},
            {"opcode base", 17, new int[] {21}, 2, 17}, {"opcode base", 17, new int[] {255}, 2, 17},
            {"no size", 0, new int[] {2}, 1, 6}, {"no segment", 0, new int[] {3}, 1, 7},
            {"no head", 0, new int[] {7}, 1, 8}, {"no least", 0, new int[] {8}, 1, 8},
            {"the first of two", 4, new int[] {4, 0, 9}, 2, 4}};
        for (Object[] f : faults) {
            ElfFile elf = elf(good);
            byte[] file = elf.build();
            int at = elf.placeOf(".debug_line");
            Due.refused((String) f[0], Dwarf.with(file, at + (Integer) f[1], (int[]) f[2]), (Integer) f[3],
                    at + (Integer) f[4]);
        }
        int[] due = {0, 1, 1, 1, 1, 0, 0, 0, 1};
        for (int i = 0; i < 12; i++) {
            LineTable t = new LineTable();
            t.operands[i] = i < 9 ? 1 - due[i] : 250;
            if (i < 9) {
                refused("operands of " + (i + 1), t.build(), 2, 18 + i);
            } else {
                taken("operands of " + (i + 1), t);
            }
        }
        for (int cut = 12; cut < good.size(); cut++) {
            // the length of the head isn't in a table that is cut
            refused("cut to " + cut, new Bytes().u32(cut - 4).add(bytes(good, 4, cut)), 1, 8);
        }
    }

    private static Bytes bytes(Bytes all, int from, int to) {
        Bytes part = new Bytes();
        for (int i = from; i < to; i++) {
            part.u8(all.toArray()[i]);
        }
        return part;
    }

    private static void kinds() {
        LineTable t = new LineTable();
        int at = t.kindsPlace();
        Bytes[] directories = {new Bytes().u8(0).uleb(1, 8), new Bytes().u8(2).uleb(1, 8), new Bytes().u8(1).uleb(2, 8),
            new Bytes().u8(1).uleb(1, 31), new Bytes().u8(1).uleb(129, 8)};
        int[] places = {0, 0, 1, 2, 1};
        for (int i = 0; i < places.length; i++) {
            t = new LineTable();
            t.directoryKinds = directories[i];
            refused("kinds of directories " + i, t.build(), 2, at + places[i]);
        }
        int filesAt = at + 3 + 4;
        long[][] kinds = {{1, 1, 8, 2, 15}, {3, 1, 8, 2, 15}, {2, 2, 8, 2, 15}, {2, 1, 14, 2, 15},
            {2, 1, 8, 1, 15}, {2, 1, 8, 2, 11}};
        for (int i = 0; i < kinds.length; i++) {
            t = new LineTable();
            t.fileKinds = new Bytes().u8(kinds[i]);
            refused("kinds of files " + i, t.build(), 2, filesAt + (i < 2 ? 0 : i - 1));
        }
        t = new LineTable();
        t.directoryKinds = new Bytes().u8(1, 129, 0, 136, 0);
        taken("kinds in more bytes", t);
    }

    private static void headEnd() {
        LineTable t = new LineTable().program(new Bytes().u8(6, 6, 6));
        int end = t.programPlace();
        taken("a head", t);
        t.isStatement = 0;
        taken("default 0", t);
        t.headMore = 1;
        refused("a head that is told longer", t.build(), 2, end);
        t.headMore = -1;
        refused("a head that is told shorter", t.build(), 2, end);
        t.headMore = 4;
        refused("a head behind the table", t.build(), 1, 8);
        t.headMore = 3;
        refused("a head up to the table's end", t.build(), 2, end);
        LineTable cut = new LineTable();
        cut.files = new Bytes().uleb(1).raw("a.c");
        refused("a name that isn't ended", cut.build(), 1, cut.kindsPlace() + 13);
        cut.files = new Bytes().uleb(1).text("a.c");
        refused("no directory", cut.build(), 1, cut.kindsPlace() + 17);
        cut.files = new Bytes();
        refused("no number of files", cut.build(), 1, cut.kindsPlace() + 12);
        cut.fileKinds = new Bytes();
        refused("no kinds of files", cut.build(), 1, cut.kindsPlace() + 7);
        cut.directories = new Bytes().uleb(2).text("/d");
        refused("a directory too few", cut.build(), 1, cut.kindsPlace() + 7);
        cut.directories = new Bytes().uleb(-1).text("/d");
        refused("a huge number of directories", cut.build(), 1, cut.kindsPlace() + 16);
        cut.directories = new Bytes().uleb(Long.MAX_VALUE).times(300, new Bytes().u8(0));
        refused("many directories", cut.build(), 1, cut.kindsPlace() + 3 + 9 + 300);
    }

    private static void files() {
        LineTable t = new LineTable();
        int at = t.kindsPlace() + 12;
        t.files = new Bytes().uleb(2).text("a.c").uleb(0).text("b").uleb(1);
        refused("no such directory", t.build(), 3, at + 1 + 5);
        t.files = new Bytes().uleb(2).text("a.c").uleb(0).text("b").uleb(-1);
        refused("a huge directory", t.build(), 3, at + 1 + 5);
        t.directories = new Bytes().uleb(0);
        t.files = new Bytes().uleb(1).text("a.c").uleb(0);
        refused("no directories at all", t.build(), 3, at - 3 + 1);
        t.files = new Bytes().uleb(0);
        Due.is("no files", taken("no files", t).count(7), 0);
        t.directories = new Bytes().uleb(2).text("x").text("y");
        t.files = new Bytes().uleb(40).times(40, new Bytes().text("f").uleb(1));
        Due.is("40 files", taken("40 files", t).count(7), 40);
        t.files = new Bytes().uleb(41).times(41, new Bytes().text("f").uleb(1));
        refused("41 files", t.build(), 4, at + 1);
        t.files = new Bytes().uleb(-1);
        refused("a huge number of files", t.build(), 4, at + 1);
    }

    private static void opcodes() {
        Bytes p = new Bytes().u8(1).add(LineTable.setAddress(1000)).u8(1).u8(2).uleb(200).u8(3).sleb(-1 + 100)
                .u8(4).uleb(700).u8(5).uleb(99999).u8(6, 7).u8(1).u8(3).sleb(-50).u8(8).u8(1).u8(9).u16(65535).u8(1)
                .add(LineTable.endSequence()).u8(1).add(LineTable.endSequence());
        rows("opcodes", new LineTable().program(p), new long[][] {{0, 1, 1, 0}, {1000, 1, 1, 0},
            {1200, 700, 100, 0}, {1217, 700, 50, 0}, {66752, 700, 50, 0}, {66752, 700, 50, 1}, {0, 1, 1, 0},
            {0, 1, 1, 1}});
        LineTable t = new LineTable().program(p);
        t.least = 4;
        rows("least length 4", t, new long[][] {{0, 1, 1, 0}, {1000, 1, 1, 0}, {1800, 700, 100, 0},
            {1868, 700, 50, 0}, {67403, 700, 50, 0}, {67403, 700, 50, 1}, {0, 1, 1, 0}, {0, 1, 1, 1}});
        t.least = 200;
        t.program = new Bytes().u8(2, 3, 8, 1).add(LineTable.endSequence());
        rows("least length 200", t, new long[][] {{4000, 1, 1, 0}, {4000, 1, 1, 1}});
        t.least = 0;
        t.program = new Bytes().u8(2, 5, 255, 8, 1).add(LineTable.endSequence());
        rows("least length 0", t, new long[][] {{0, 1, 0, 0}, {0, 1, 0, 0}, {0, 1, 0, 1}});
        rows("no rows", new LineTable().program(new Bytes().u8(2, 5, 3, 4)), new long[][] {});
        rows("nothing", new LineTable(), new long[][] {});
        program("a cut opcode 2", new Bytes().u8(2, 128), 1, 1);
        program("a cut opcode 3", new Bytes().u8(3), 1, 1);
        program("a cut opcode 4", new Bytes().u8(4), 1, 1);
        program("a cut opcode 5", new Bytes().u8(5), 1, 1);
        program("a cut opcode 9", new Bytes().u8(9, 1), 1, 1);
    }

    private static void special() {
        // 13: +0, -5; 26: +0, +8; 27: +1, -5; 255: +17, -1
        Bytes p = new Bytes().u8(3).sleb(9).u8(13, 26, 27, 255).add(LineTable.endSequence());
        rows("special", new LineTable().program(p),
                new long[][] {{0, 1, 5, 0}, {0, 1, 13, 0}, {1, 1, 8, 0}, {18, 1, 7, 0}, {18, 1, 7, 1}});
        LineTable t = new LineTable().program(p);
        t.base = 100;
        t.range = 255;
        rows("special, wide", t, new long[][] {{0, 1, 110, 0}, {0, 1, 223, 0}, {0, 1, 337, 0}, {0, 1, 679, 0},
            {0, 1, 679, 1}});
        t.base = -128;
        t.range = 1;
        t.least = 3;
        t.program = new Bytes().u8(3).sleb(999).u8(13, 14, 255, 8, 1).add(LineTable.endSequence());
        rows("special, narrow", t, new long[][] {{0, 1, 872, 0}, {3, 1, 744, 0}, {729, 1, 616, 0},
            {1455, 1, 616, 0}, {1455, 1, 616, 1}});
        t = new LineTable();
        t.opcodeBase = 10;
        t.operands = new int[] {0, 1, 1, 1, 1, 0, 0, 0, 1};
        t.program = new Bytes().u8(3).sleb(9).u8(10, 24, 8, 1).add(LineTable.endSequence());
        rows("opcode base 10", t, new long[][] {{0, 1, 5, 0}, {1, 1, 0, 0}, {18, 1, 0, 0}, {18, 1, 0, 1}});
    }

    private static void otherOpcodes() {
        LineTable t = new LineTable();
        t.opcodeBase = 20;
        t.operands = new int[] {0, 1, 1, 1, 1, 0, 0, 0, 1, 0, 0, 1, 2, 0, 0, 0, 0, 0, 3};
        t.program = new Bytes().u8(10, 11, 12).uleb(300).u8(13).uleb(1, 1).u8(19).uleb(1, 20, 900)
                .u8(25, 39, 1).add(LineTable.endSequence());
        rows("opcodes 10 .. 19", t, new long[][] {{0, 1, 1, 0}, {1, 1, 1, 0}, {1, 1, 1, 0}, {1, 1, 1, 1}});
        t.program = new Bytes().u8(6, 19).uleb(1, 2);
        refused("a cut opcode 19", t.build(), 1, t.programPlace() + 4);
    }

    private static void extended() {
        Bytes p = new Bytes().u8(0, 1, 3).u8(0, 5, 4, 1, 1, 1, 1).u8(0, 2, 128, 1).u8(0, 129, 0, 0)
                .u8(0, 137, 0, 2).u64(77).u8(1, 0, 129, 0, 1);
        rows("extended", new LineTable().program(p), new long[][] {{77, 1, 1, 0}, {77, 1, 1, 1}});
        program("n of 0", new Bytes().u8(6, 0, 0), 2, 1);
        program("no n", new Bytes().u8(6, 0), 1, 2);
        program("a cut n", new Bytes().u8(6, 0, 128), 1, 2);
        program("not in the table", new Bytes().u8(6, 0, 3, 4, 4), 1, 1);
        program("n of 1, not in the table", new Bytes().u8(6, 0, 1), 1, 1);
        program("huge", new Bytes().u8(6, 0).uleb(-1).u8(1, 1, 1), 1, 1);
        program("an end of 2", new Bytes().u8(6, 0, 2, 1, 1), 2, 1);
        program("an end not in the table", new Bytes().u8(6, 0, 2, 1), 1, 1);
        program("an address of 4", new Bytes().u8(6, 0, 5, 2, 1, 1, 1, 1), 2, 1);
        program("an address of 9", new Bytes().u8(6, 0, 10, 2).u64(1).u8(1), 2, 1);
        program("an address not in the table", new Bytes().u8(6, 0, 9, 2).u32(1), 1, 1);
    }

    private static void rowFaults() {
        Bytes end = LineTable.endSequence();
        program("no address", new Bytes().add(LineTable.setAddress(-1)).u8(1).add(end), 2, 11);
        program("no address at the end", new Bytes().add(LineTable.setAddress(-1)).add(end), 2, 11);
        rows("no address, but no row", new LineTable().program(new Bytes().add(LineTable.setAddress(-1))
                .add(LineTable.setAddress(5)).u8(1).add(end)), new long[][] {{5, 1, 1, 0}, {5, 1, 1, 1}});
        program("backwards", new Bytes().add(LineTable.setAddress(9)).u8(1).add(LineTable.setAddress(8)).u8(1), 2, 23);
        program("backwards by a special opcode",
                new Bytes().add(LineTable.setAddress(9)).u8(1).add(LineTable.setAddress(8)).u8(20), 2, 23);
        program("backwards at the end",
                new Bytes().add(LineTable.setAddress(9)).u8(1).add(LineTable.setAddress(8)).add(end), 2, 23);
        rows("a new sequence", new LineTable().program(new Bytes().add(LineTable.setAddress(9)).add(end)
                .add(LineTable.setAddress(8)).add(end)), new long[][] {{9, 1, 1, 1}, {8, 1, 1, 1}});
        rows("greatest", new LineTable().program(new Bytes().u8(3).sleb(999999).u8(4).uleb(1000000).u8(1)
                .add(LineTable.setAddress(Long.MAX_VALUE)).u8(3).sleb(-1000000).u8(4, 0).add(end)),
                new long[][] {{0, 1000000, 1000000, 0}, {Long.MAX_VALUE, 0, 0, 1}});
        program("line 1000001", new Bytes().u8(3).sleb(1000000).u8(1).add(end), 2, 4);
        program("line -1", new Bytes().u8(3).sleb(-2).u8(1).add(end), 2, 2);
        program("line far", new Bytes().u8(3).sleb(1L << 32).u8(1).add(end), 2, 6);
        program("line -1 by a special opcode", new Bytes().u8(13 + 3), 2, 0);
        program("file 1000001", new Bytes().u8(4).uleb(1000001).u8(1).add(end), 2, 4);
        program("file far", new Bytes().u8(4).uleb(1L << 32).u8(1).add(end), 2, 6);
        program("file huge", new Bytes().u8(4).uleb(-1).u8(1).add(end), 2, 11);
        program("address over the greatest",
                new Bytes().add(LineTable.setAddress(Long.MAX_VALUE)).u8(1, 2, 1, 1).add(end), 2, 14);
        program("not ended", new Bytes().u8(1), 1, 1);
        program("a second one not ended", new Bytes().u8(1).add(end).u8(6, 1, 6), 1, 7);
        rows("no row behind the end", new LineTable().program(new Bytes().u8(1).add(end).u8(6, 3, 4)),
                new long[][] {{0, 1, 1, 0}, {0, 1, 1, 1}});
    }

    private static void limits() {
        Bytes end = LineTable.endSequence();
        Bytes most = new Bytes().times(599, new Bytes().u8(1));
        Due.is("600 rows", taken("600 rows", new LineTable().program(new Bytes().add(most).add(end))).count(6), 600);
        program("601 rows", new Bytes().u8(1).add(most).add(end), 4, 600);
        program("601 rows by 1", new Bytes().u8(1).add(most).u8(1).add(end), 4, 600);
        program("601 rows by a special opcode", new Bytes().u8(1).add(most).u8(20).add(end), 4, 600);
        program("the lesser fault", new Bytes().u8(1).add(most).u8(3).sleb(-2).u8(1), 2, 602);
    }

    private static void severalUnits() {
        Bytes b = new Bytes().add(Dwarf.code(1, 17, 0, 16, 23)).add(Dwarf.code(2, 17, 0)).u8(0);
        LineTable one = new LineTable().program(new Bytes().u8(1).add(LineTable.endSequence()));
        LineTable two = new LineTable().program(new Bytes().u8(3, 4, 1).add(LineTable.endSequence()));
        two.files = new Bytes().uleb(1).text("c").uleb(0);
        int second = one.build().size();
        Bytes info = new Bytes().add(Dwarf.unit(new Bytes().u8(1).u32(second))).add(Dwarf.unit(new Bytes().u8(2)))
                .add(Dwarf.unit(new Bytes().u8(1).u32(0))).add(Dwarf.unit(new Bytes().u8(1).u32(second)));
        ElfFile elf = new ElfFile().add(".debug_abbrev", b).add(".debug_info", info)
                .add(".debug_line", new Bytes().add(one.build()).add(two.build()));
        byte[] file = elf.build();
        AddressNamer x = Due.taken("four units", file, 4);
        Due.is("count(6)", x.count(6), 6);
        Due.is("count(7)", x.count(7), 4);
        int[] units = {0, 0, 2, 2, 3, 3};
        int[] lines = {5, 5, 1, 1, 5, 5};
        for (int i = 0; i < 6; i++) {
            Due.is("unit of row " + i, x.row(i, 0), units[i]);
            Due.is("line of row " + i, x.row(i, 2), lines[i]);
        }
        int at = elf.placeOf(".debug_info");
        Due.refused("the third unit's fault", Dwarf.with(file, at + 17 + 13 + 13, 0, 16), 3, at + 17 + 13);
        LineTable many = new LineTable();
        many.files = new Bytes().uleb(21).times(21, new Bytes().text("f").uleb(0));
        Bytes both = new Bytes().add(Dwarf.unit(new Bytes().u8(1).u32(0))).add(Dwarf.unit(new Bytes().u8(1).u32(0)));
        ElfFile over = new ElfFile().add(".debug_abbrev", b).add(".debug_info", both)
                .add(".debug_line", many.build());
        byte[] tooMany = over.build();
        Due.refused("42 files of two units", tooMany, 4, over.placeOf(".debug_line") + many.kindsPlace() + 12);
    }
}
