/** The chain of an address (part 6 of the terms; promises 11 to 15). */
public final class FindTest {
    public static void main(String[] args) {
        chains();
        frames();
        filesWithoutRows();
        callsAsInts();
        rowsOfOtherUnits();
        filesOfOtherUnits();
        lastRow();
        firstOfSeveral();
        deepChain();
        withoutChain();
        latestOne();
        wrongArguments();
        Due.finish("FindTest");
    }

    private static AddressNamer sample() {
        return Due.taken("sample", Sample.elf().build(), Sample.ENTRIES);
    }

    private static void chain(AddressNamer x, long address, int... entries) {
        Due.is("find(" + address + ")", x.find(address), entries.length);
        for (int i = 0; i < entries.length; i++) {
            Due.is("frame(" + i + ", 0) of " + address, x.frame(i, 0), entries[i]);
        }
        Due.is("frame behind the last of " + address, x.frame(entries.length, 0), -1);
    }

    private static void chains() {
        AddressNamer x = sample();
        chain(x, 999);
        chain(x, 1000, 2);
        chain(x, 1009, 2);
        chain(x, 1010, 4, 2);
        chain(x, 1014, 4, 2);
        chain(x, 1015, 4, 2);
        chain(x, 1022, 4, 2);
        chain(x, 1026, 4, 2);
        chain(x, 1027, 6, 4, 2);
        chain(x, 1034, 6, 4, 2);
        chain(x, 1035, 4, 2);
        chain(x, 1044, 4, 2);
        chain(x, 1049, 4, 2);
        chain(x, 1050, 7, 2);
        chain(x, 1059, 7, 2);
        chain(x, 1060, 2);
        chain(x, 1099, 2);
        chain(x, 1100, 8);
        chain(x, 1139, 8);
        chain(x, 1140);
        chain(x, 3000, 10);
        chain(x, 3010);
        chain(x, -1);
        chain(x, Long.MIN_VALUE);
        chain(x, Long.MAX_VALUE);
    }

    private static void frame(AddressNamer x, int i, int file, int line, String name, String path) {
        Due.is("file of " + i, x.frame(i, 1), file);
        Due.is("line of " + i, x.frame(i, 2), line);
        Due.is("length of name of " + i, x.frame(i, 3), name == null ? -1 : name.length());
        Due.is("length of file of " + i, x.frame(i, 4), path == null ? -1 : path.length());
        Due.text("name of " + i, k -> x.name(i, k), name == null ? "" : name);
        Due.text("file of " + i, k -> x.file(i, k), path == null ? "" : path);
        Due.is("name(i, -1)", x.name(i, -1), -1);
        Due.is("file(i, -1)", x.file(i, -1), -1);
        Due.is("name(i, greatest)", x.name(i, Integer.MAX_VALUE), -1);
        Due.is("file(i, greatest)", x.file(i, Integer.MAX_VALUE), -1);
    }

    private static void frames() {
        AddressNamer x = sample();
        x.find(1030);
        frame(x, 0, 0, 20, "leaf", "a.c");
        frame(x, 1, 0, 88, "leaf", "a.c");
        frame(x, 2, 1, 77, "main", "bb.c");
        x.find(1033);
        frame(x, 0, 5, 30, "leaf", null);
        x.find(1011);
        frame(x, 0, 1, 10, "leaf", "bb.c");
        frame(x, 1, 1, 77, "main", "bb.c");
        x = sample();
        x.find(1055);
        frame(x, 0, 5, 30, null, null);
        frame(x, 1, 9, 0, "main", null);
        x.find(1110);
        frame(x, 0, 1, 100, "late", "bb.c");
        x.find(1130);
        frame(x, 0, 0, 0, "late", "a.c");
        x.find(3005);
        frame(x, 0, 0, 0, "second", null);
        Due.is("no symbol with a chain", x.symbol(0), -1);
        Due.is("no symbol's name with a chain", x.name(-1, 0), -1);
    }

    private static void filesWithoutRows() {
        Bytes b = new Bytes().add(Dwarf.code(1, 46, 0, 17, 1, 18, 11, 16, 23)).u8(0);
        LineTable t = new LineTable();
        Bytes e = new Bytes().u8(1).u64(100).u8(10).u32(0);
        AddressNamer x = Due.taken("no rows", Dwarf.file(b, e).add(".debug_line", t.build()).build(), 1);
        x.find(100);
        frame(x, 0, 0, 0, null, "a.c");
        t.files = new Bytes().uleb(0);
        AddressNamer y = Due.taken("no files", Dwarf.file(b, e).add(".debug_line", t.build()).build(), 1);
        y.find(100);
        frame(y, 0, 0, 0, null, null);
        t.files = new Bytes().uleb(1).text("").uleb(0);
        AddressNamer z = Due.taken("an empty name", Dwarf.file(b, e).add(".debug_line", t.build()).build(), 1);
        z.find(100);
        frame(z, 0, 0, 0, null, "");
    }

    private static void callsAsInts() {
        Bytes b = new Bytes().add(Dwarf.code(1, 46, 1, 17, 1, 18, 11, 16, 23))
                .add(Dwarf.code(2, 29, 0, 17, 1, 18, 11, 88, 7, 89, 7)).u8(0);
        long[][] due = {{0x1_0000_0001L, 0x5_0000_0007L, 1, 7, 4}, {-1, -2, -1, -2, -1}, {0, 0, 0, 0, 3},
            {2, 5, 2, 5, -1}, {0x8000_0000L, 1, Integer.MIN_VALUE, 1, -1}};
        for (long[] d : due) {
            Bytes e = new Bytes().u8(1).u64(100).u8(10).u32(0).u8(2).u64(100).u8(10).u64(d[0]).u64(d[1]).u8(0);
            AddressNamer x = Due.taken("calls", Dwarf.file(b, e).add(".debug_line", new LineTable().build()).build(), 2);
            chain(x, 105, 1, 0);
            Due.is("file of a call", x.frame(1, 1), d[2]);
            Due.is("line of a call", x.frame(1, 2), d[3]);
            Due.is("length of its file", x.frame(1, 4), d[4]);
        }
    }

    private static void rowsOfOtherUnits() {
        Bytes b = new Bytes().add(Dwarf.code(1, 46, 0, 17, 1, 18, 11, 16, 23)).u8(0);
        LineTable one = new LineTable().program(new Bytes().add(LineTable.setAddress(100)).u8(1).u8(2).uleb(50)
                .add(LineTable.endSequence()));
        LineTable two = new LineTable().program(new Bytes().add(LineTable.setAddress(110)).u8(3, 6, 1).u8(2).uleb(50)
                .add(LineTable.endSequence()));
        two.files = new Bytes().uleb(2).text("q").uleb(0).text("qq.c").uleb(0);
        Bytes info = new Bytes().add(Dwarf.unit(new Bytes().u8(1).u64(100).u8(10).u32(0)))
                .add(Dwarf.unit(new Bytes().u8(1).u64(110).u8(10).u32(one.build().size())));
        AddressNamer x = Due.taken("two units", new ElfFile().add(".debug_abbrev", b).add(".debug_info", info)
                .add(".debug_line", new Bytes().add(one.build()).add(two.build())).build(), 2);
        chain(x, 105, 0);
        frame(x, 0, 1, 1, null, "bb.c");
        chain(x, 115, 1);
        frame(x, 0, 1, 7, null, "qq.c");
    }

    /** A unit's numbers mean its own files: one behind its last isn't the next unit's first. */
    private static void filesOfOtherUnits() {
        Bytes b = new Bytes().add(Dwarf.code(1, 46, 1, 17, 1, 18, 11, 16, 23))
                .add(Dwarf.code(2, 29, 0, 17, 1, 18, 11, 88, 11)).u8(0);
        Bytes info = new Bytes();
        for (int u = 0; u < 2; u++) {
            info.add(Dwarf.unit(new Bytes().u8(1).u64(100 + 50 * u).u8(10).u32(0)
                    .u8(2).u64(100 + 50 * u).u8(5).u8(2).u8(2).u64(105 + 50 * u).u8(5).u8(1).u8(0)));
        }
        AddressNamer x = Due.taken("files of two units", new ElfFile().add(".debug_abbrev", b)
                .add(".debug_info", info).add(".debug_line", new LineTable().build()).build(), 6);
        for (int u = 0; u < 2; u++) {
            chain(x, 100 + 50 * u, 1 + 3 * u, 3 * u);
            frame(x, 1, 2, 0, null, null);
            chain(x, 105 + 50 * u, 2 + 3 * u, 3 * u);
            frame(x, 1, 1, 0, null, "bb.c");
        }
    }

    /** Each row governs from its own address on, the last but one of 600, too. */
    private static void lastRow() {
        Bytes b = new Bytes().add(Dwarf.code(1, 46, 0, 17, 1, 18, 5, 16, 23)).u8(0);
        Bytes p = new Bytes().add(LineTable.setAddress(100)).times(598, new Bytes().u8(1)).u8(2, 5, 3, 8, 1, 2, 7);
        LineTable t = new LineTable().program(p.add(LineTable.endSequence()));
        AddressNamer x = Due.taken("600 rows", Dwarf.file(b, new Bytes().u8(1).u64(100).u16(50).u32(0))
                .add(".debug_line", t.build()).build(), 1);
        int[][] due = {{100, 1, 1}, {104, 1, 1}, {105, 1, 9}, {111, 1, 9}, {112, 0, 0}};
        for (int[] d : due) {
            x.find(d[0]);
            Due.is("file at " + d[0], x.frame(0, 1), d[1]);
            Due.is("line at " + d[0], x.frame(0, 2), d[2]);
        }
    }

    private static void firstOfSeveral() {
        // the first function by entries holds, though another one is within it and one comes later
        Bytes b = new Bytes().add(Dwarf.code(1, 17, 1, 17, 1, 18, 11)).add(Dwarf.code(2, 46, 1, 17, 1, 18, 11))
                .add(Dwarf.code(3, 29, 1, 17, 1, 18, 11)).add(Dwarf.code(4, 11, 1, 17, 1, 18, 11))
                .add(Dwarf.code(5, 11, 1)).u8(0);
        Bytes e = new Bytes().u8(1).u64(100).u8(100);
        e.u8(5);                                          // 1: a block without ranges
        e.u8(2).u64(110).u8(10).u8(0);                    // 2: a function in it
        e.u8(0);
        e.u8(2).u64(100).u8(50);                          // 3
        e.u8(5).u8(3).u64(100).u8(50).u8(0).u8(0);        // 4, 5: a block that holds nothing hides its child
        e.u8(2).u64(100).u8(50).u8(0);                    // 6: a function within is none of the chain
        e.u8(4).u64(100).u8(5).u8(0);                     // 7: the first child that holds, without children
        e.u8(3).u64(100).u8(20).u8(0);                    // 8
        e.u8(3).u64(100).u8(40).u8(0);                    // 9
        e.u8(0);
        e.u8(2).u64(100).u8(90).u8(0).u8(0);              // 10
        AddressNamer x = Due.taken("several", Dwarf.file(b, e).build(), 11);
        chain(x, 99);
        chain(x, 100, 3);
        chain(x, 104, 3);
        chain(x, 105, 8, 3);
        chain(x, 110, 2);
        chain(x, 119, 2);
        chain(x, 120, 9, 3);
        chain(x, 140, 3);
        chain(x, 150, 10);
        chain(x, 190);
    }

    private static void deepChain() {
        Bytes b = new Bytes().add(Dwarf.code(1, 46, 1, 17, 1, 18, 11))
                .add(Dwarf.code(2, 29, 1, 17, 1, 18, 11, 88, 11, 89, 11)).u8(0);
        Bytes e = new Bytes().u8(1).u64(100).u8(10);
        for (int i = 1; i < 24; i++) {
            e.u8(2).u64(100).u8(10).u8(i, 100 + i);
        }
        AddressNamer x = Due.taken("deep", Dwarf.file(b, e.times(24, new Bytes().u8(0))).build(), 24);
        Due.is("24 deep", x.find(109), 24);
        for (int i = 0; i < 24; i++) {
            Due.is("entry", x.frame(i, 0), 23 - i);
            Due.is("file", x.frame(i, 1), i == 0 ? 0 : 24 - i);
            Due.is("line", x.frame(i, 2), i == 0 ? 0 : 124 - i);
        }
    }

    private static void withoutChain() {
        AddressNamer x = sample();
        chain(x, 2005);
        Due.is("symbol(0)", x.symbol(0), 1);
        Due.is("symbol(1)", x.symbol(1), 4);
        Due.is("symbol(2)", x.symbol(2), 5);
        Due.text("its name", k -> x.name(-1, k), "some");
        chain(x, 2010);
        Due.is("symbol(0)", x.symbol(0), 0);
        Due.is("symbol(2)", x.symbol(2), 1010);
        Due.text("its name", k -> x.name(-1, k), "all");
        chain(x, 6000);
        Due.is("none", x.symbol(0), -1);
        Due.is("none", x.symbol(2), -1);
        Due.is("none", x.name(-1, 0), -1);
    }

    /** frame(), name(), file() and symbol() are of the latest find(); behind a taken file of none. */
    private static void latestOne() {
        AddressNamer x = sample();
        Due.is("ahead of any", x.frame(0, 0), -1);
        Due.is("ahead of any", x.symbol(0), -1);
        x.find(1030);
        x.find(2005);
        Due.is("no frame", x.frame(0, 0), -1);
        Due.is("no sign", x.name(0, 0), -1);
        Due.is("no file", x.file(0, 0), -1);
        x.find(1030);
        Due.is("no symbol", x.symbol(0), -1);
        x.poke(0, 1);
        Due.is("refused", x.load(), -1);
        Due.is("a refused file leaves it", x.frame(2, 0), 2);
        Due.text("name", k -> x.name(2, k), "main");
        x.poke(0, 127);
        Due.is("taken", x.load(), Sample.ENTRIES);
        Due.is("a taken file ends it", x.frame(0, 0), -1);
        Due.is("its names", x.name(0, 0), -1);
        x.find(2005);
        x.load();
        Due.is("a taken file ends it", x.symbol(0), -1);
        Due.is("its name", x.name(-1, 0), -1);
    }

    private static void wrongArguments() {
        AddressNamer x = sample();
        x.find(1030);
        for (int i : new int[] {-1, 3, Integer.MAX_VALUE, Integer.MIN_VALUE}) {
            for (int what = -1; what <= 5; what++) {
                Due.is("frame(" + i + ", " + what + ")", x.frame(i, what), -1);
            }
            Due.is("name(" + i + ", 0)", x.name(i, 0), -1);
            Due.is("file(" + i + ", 0)", x.file(i, 0), -1);
        }
        Due.is("frame(0, 5)", x.frame(0, 5), -1);
        Due.is("frame(0, -1)", x.frame(0, -1), -1);
    }
}
