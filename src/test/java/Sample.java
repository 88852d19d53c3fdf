/**
 * A file with all that a chain can have. Its addresses, unit 0 (LOW 1000):
 *   main 1000 .. 1100, in it inlined "leaf" 1010 .. 1050 (call: file 1, line 77),
 *   in that a block 1015 .. 1020 and 1025 .. 1040, in that inlined 1027 .. 1035 (call: line 88, no file);
 *   beside "leaf" an inlined one without a name 1045 .. 1060 (call: file 9, no line).
 * Unit 1, without lines: a function 3000 .. 3010 whose name stands in .debug_str.
 */
final class Sample {
    static final int ENTRIES = 12;

    private Sample() {
    }

    static Bytes abbreviations() {
        return new Bytes()
                .add(Dwarf.code(1, 17, 1, 3, 8, 17, 1, 16, 23))
                .add(Dwarf.code(2, 46, 0, 3, 8))
                .add(Dwarf.code(3, 46, 1, 3, 8, 17, 1, 18, 11))
                .add(Dwarf.code(4, 29, 1, 49, 19, 17, 1, 18, 1, 88, 11, 89, 5))
                .add(Dwarf.code(5, 11, 1, 85, 23))
                .add(Dwarf.code(6, 29, 0, 49, 19, 85, 23, 89, 15))
                .add(Dwarf.code(7, 29, 0, 17, 1, 18, 1, 88, 11))
                .add(Dwarf.code(8, 17, 1))
                .add(Dwarf.code(9, 46, 0, 3, 14, 17, 1, 18, 1))
                .add(Dwarf.code(10, 52, 0, 17, 1, 18, 1)).u8(0);
    }

    private static Bytes firstUnit() {
        Bytes e = new Bytes().u8(1).text("u").u64(1000).u32(0);            // 0
        int leaf = 12 + e.size();
        e.u8(2).text("leaf");                                               // 1
        e.u8(3).text("main").u64(1000).u8(100);                             // 2
        e.u8(10).u64(1000).u64(1100);                                       // 3: another tag
        e.u8(4).u32(leaf).u64(1010).u64(1050).u8(1).u16(77);                // 4
        e.u8(5).u32(0);                                                     // 5
        e.u8(6).u32(leaf).u32(7).uleb(88).u8(0, 0);                         // 6
        e.u8(7).u64(1045).u64(1060).u8(9);                                  // 7
        e.u8(0);
        e.u8(3).text("late").u64(1090).u8(50).u8(0);                        // 8
        return Dwarf.unit(e.u8(0));
    }

    private static Bytes secondUnit() {
        Bytes e = new Bytes().u8(8);                                        // 9
        e.u8(9).u32(2).u64(3000).u64(3010);                                 // 10
        e.u8(7).u64(3000).u64(3010).u8(0);                                  // 11: not within a function
        return Dwarf.unit(e.u8(0));
    }

    static Bytes ranges() {
        return new Bytes().u8(4).uleb(15, 20).u8(4).uleb(25, 40).u8(0)      // 0 .. 6
                .u8(7).u64(1027).uleb(8).u8(0);
    }

    static LineTable lines() {
        Bytes p = new Bytes().add(LineTable.setAddress(1000)).u8(3).sleb(9).u8(1)      // 1000: 1, 10
                .u8(2).uleb(12).u8(4).uleb(0).u8(3).sleb(10).u8(1)                      // 1012: 0, 20
                .u8(1)                                                                  // 1012 again: 0, 20
                .u8(2).uleb(20).u8(4).uleb(5).u8(3).sleb(10).u8(1)                      // 1032: 5, 30
                .u8(2).uleb(68).add(LineTable.endSequence())                            // 1100
                .add(LineTable.setAddress(1010)).u8(3).sleb(99).u8(1)                   // 1010: 1, 100
                .u8(2).uleb(120).add(LineTable.endSequence());                          // 1130
        return new LineTable().program(p);
    }

    static ElfFile elf() {
        Bytes symbols = new Bytes().add(Dwarf.symbol(1, 2, 1, 1000, 5000)).add(Dwarf.symbol(5, 2, 1, 2000, 10));
        return new ElfFile().add(".debug_abbrev", abbreviations())
                .add(".debug_info", new Bytes().add(firstUnit()).add(secondUnit()))
                .add(".debug_rnglists", ranges()).add(".debug_line", lines().build())
                .add(".debug_str", new Bytes().text("x").text("second"))
                .add(".strtab", new Bytes().text("").text("all").text("some")).add(".symtab", symbols);
    }
}
