/** Part 6 of the terms, sentence by sentence: chains, names, rows and symbols at their boundaries. */
public final class FindEdgeTest {
    /** Tags with LOW and HIGH above it: codes 1 to 9, all with children; code 10 has no ranges. */
    private static final int[] TAGS = {17, 46, 29, 11, 45, 47, 28, 30, 10, 12};

    public static void main(String[] args) {
        firstFunctionThatHolds();
        otherTagsAreNoFunctions();
        oneOfItsRangesHolds();
        childrenThatAreBlocksOrPutWithin();
        firstChildThatHolds();
        childrenAlone();
        blocksAreNoneOfTheChain();
        tagsOfMoreBits();
        eightOriginsAtMost();
        rowGovernsFromItsOwnOn();
        firstRowAsTheyWereRead();
        rowsOfItsUnit();
        callOfTheOneAhead();
        callsAsInts();
        filesFromZeroOn();
        filesOfOtherUnits();
        symbolFromValueOn();
        symbolWithTheGreatestValue();
        Due.finish("FindEdgeTest");
    }

    private static Bytes codes() {
        Bytes b = new Bytes();
        for (int i = 0; i < TAGS.length; i++) {
            b.add(Dwarf.code(i + 1, TAGS[i], 1, 17, 1, 18, 11));
        }
        return b.u8(0);
    }

    private static Bytes held(int code, long low, int more, Bytes... children) {
        Bytes b = new Bytes().u8(code).u64(low).u8(more);
        for (Bytes c : children) {
            b.add(c);
        }
        return b.u8(0);
    }

    private static void chain(String what, AddressNamer x, long address, int... entries) {
        Due.is(what + ": find(" + address + ")", x.find(address), entries.length);
        for (int i = 0; i < entries.length; i++) {
            Due.is(what + ": frame(" + i + ", 0) of " + address, x.frame(i, 0), entries[i]);
        }
        Due.is(what + ": none behind", x.frame(entries.length, 0), -1);
    }

    private static AddressNamer tree(String what, Bytes entries) {
        return Due.taken(what, Dwarf.file(codes(), entries).build());
    }

    /** "the first FUNCTION (by ENTRIES) that HOLDS it is the outermost of its CHAIN". */
    private static void firstFunctionThatHolds() {
        AddressNamer x = tree("functions", held(1, 0, 0, held(2, 100, 10), held(2, 100, 20), held(2, 110, 30),
                held(2, 90, 100)));
        chain("first", x, 89);
        chain("first", x, 90, 4);
        chain("first", x, 99, 4);
        chain("first", x, 100, 1);
        chain("first", x, 109, 1);
        chain("first", x, 110, 2);
        chain("first", x, 119, 2);
        chain("first", x, 120, 3);
        chain("first", x, 139, 3);
        chain("first", x, 140, 4);
        chain("first", x, 189, 4);
        chain("first", x, 190);
        AddressNamer nested = tree("a function in others", held(5, 100, 50, held(4, 0, 0, held(2, 100, 50,
                held(2, 100, 50)))));
        chain("wherever it stands", nested, 100, 2);
        Bytes two = new Bytes().add(Dwarf.unit(held(1, 100, 50))).add(Dwarf.unit(held(2, 100, 50)))
                .add(Dwarf.unit(held(2, 100, 60)));
        AddressNamer units = Due.taken("units", new ElfFile().add(".debug_abbrev", codes()).add(".debug_info", two)
                .build(), 3);
        chain("of all units", units, 100, 1);
        chain("of all units", units, 149, 1);
        chain("of all units", units, 150, 2);
    }

    /** 46 alone is a FUNCTION's tag, not its neighbours, nor those of BLOCKS and of ones PUT WITHIN. */
    private static void otherTagsAreNoFunctions() {
        for (int code = 1; code <= TAGS.length; code++) {
            AddressNamer x = tree("tag " + TAGS[code - 1], held(code, 100, 10));
            Due.is("tag " + TAGS[code - 1], x.find(100), TAGS[code - 1] == 46 ? 1 : 0);
            Due.is("it holds", x.holds(0, 100), true);
        }
    }

    /** "HOLDS it (one of its RANGES does)". */
    private static void oneOfItsRangesHolds() {
        Bytes codes = new Bytes().add(Dwarf.code(1, 46, 0, 85, 23)).u8(0);
        Bytes list = new Bytes().u8(6).u64(10).u64(12).u8(6).u64(20).u64(20).u8(6).u64(30).u64(31).u8(0);
        AddressNamer x = Due.taken("ranges", Dwarf.file(codes, new Bytes().u8(1).u32(0))
                .add(".debug_rnglists", list).build(), 1);
        int[][] due = {{9, 0}, {10, 1}, {11, 1}, {12, 0}, {19, 0}, {20, 0}, {29, 0}, {30, 1}, {31, 0}};
        for (int[] d : due) {
            Due.is("find(" + d[0] + ")", x.find(d[0]), d[1]);
            Due.is("holds(" + d[0] + ")", x.holds(0, d[0]), d[1] == 1);
        }
        long[] below = {-1, Long.MIN_VALUE};
        for (long a : below) {
            Due.is("find(" + a + ")", x.find(a), 0);
            Due.is("holds(" + a + ")", x.holds(0, a), false);
        }
    }

    /** "of its children that are BLOCKS or PUT WITHIN": 11 and 29, not their neighbours. */
    private static void childrenThatAreBlocksOrPutWithin() {
        for (int code = 1; code <= TAGS.length; code++) {
            int tag = TAGS[code - 1];
            AddressNamer x = tree("tag " + tag, held(2, 100, 10, held(code, 100, 10, held(3, 100, 10))));
            if (tag == 29) {
                chain("tag " + tag, x, 105, 2, 1, 0);
            } else if (tag == 11) {
                chain("tag " + tag, x, 105, 2, 0);
            } else {
                chain("tag " + tag, x, 105, 0);
            }
        }
    }

    /** "the first one that HOLDS it is found next": no later one is looked at. */
    private static void firstChildThatHolds() {
        AddressNamer x = tree("children", held(2, 100, 100, held(3, 110, 10), held(4, 110, 20), held(3, 110, 30,
                held(3, 110, 30)), held(3, 100, 50)));
        chain("first", x, 109, 5, 0);
        chain("first", x, 110, 1, 0);
        chain("first", x, 119, 1, 0);
        chain("first", x, 120, 0);
        chain("first", x, 129, 0);
        chain("first", x, 130, 4, 3, 0);
        chain("first", x, 139, 4, 3, 0);
        chain("first", x, 140, 5, 0);
        chain("first", x, 150, 0);
        chain("a child outside of its function", tree("outside", held(2, 100, 10, held(3, 100, 50))), 120);
    }

    /** "of its children": what is deeper counts only by way of one that was found. */
    private static void childrenAlone() {
        AddressNamer x = tree("deeper", held(2, 100, 10, held(4, 100, 0, held(3, 100, 10)), held(5, 100, 10,
                held(3, 100, 10))));
        chain("none was found", x, 105, 0);
        AddressNamer y = tree("deeper", held(2, 100, 10, held(4, 100, 10, held(4, 100, 10, held(3, 100, 10)))));
        chain("blocks were found", y, 105, 3, 0);
        AddressNamer z = tree("siblings", held(1, 0, 0, held(2, 100, 10), held(3, 100, 10)));
        chain("a sibling is no child", z, 105, 1);
    }

    /** "The CHAIN has the FUNCTION and those PUT WITHIN, the innermost first." */
    private static void blocksAreNoneOfTheChain() {
        AddressNamer x = tree("mixed", held(2, 100, 90, held(4, 100, 80, held(3, 100, 70, held(3, 100, 60,
                held(4, 100, 50))))));
        chain("mixed", x, 100, 3, 2, 0);
        chain("mixed", x, 149, 3, 2, 0);
        chain("mixed", x, 159, 3, 2, 0);
        chain("mixed", x, 160, 2, 0);
        chain("mixed", x, 170, 0);
        chain("mixed", x, 180, 0);
        chain("mixed", x, 190);
        for (int levels = 23; levels <= 24; levels++) {
            Bytes deep = held(3, 100, 10);
            for (int i = 2; i < levels; i++) {
                deep = held(3, 100, 10, deep);
            }
            Due.is("a chain of " + levels, tree("deep", held(2, 100, 10, deep)).find(100), levels);
        }
    }

    /** Tags have all of the ULEB's 64 bits: one with a bit more is another one. */
    private static void tagsOfMoreBits() {
        Bytes codes = new Bytes().add(Dwarf.code(1, (1L << 32) + 46, 0, 17, 1, 18, 11)).u8(0);
        AddressNamer x = Due.taken("a wide tag", Dwarf.file(codes, new Bytes().u8(1).u64(5).u8(5)).build(), 1);
        Due.is("its lower 32 bits are told", x.entry(0, 0), 46);
        Due.is("it is no function", x.find(5), 0);
    }

    /** "NAME: its name, else that of its ORIGIN, and so on, eight ORIGINS at most; none else." */
    private static void eightOriginsAtMost() {
        Bytes codes = new Bytes().add(Dwarf.code(1, 17, 1)).add(Dwarf.code(2, 46, 0, 49, 19, 17, 1, 18, 11))
                .add(Dwarf.code(3, 46, 0, 3, 8)).u8(0);
        for (int origins = 1; origins <= 10; origins++) {
            Bytes e = new Bytes().u8(1);
            for (int i = 1; i <= origins; i++) {
                e.u8(2).u32(13 + 14 * i).u64(i).u8(1);
            }
            AddressNamer x = Due.taken(origins + " origins", Dwarf.file(codes, e.u8(3).text("na").u8(0)).build());
            x.find(1);
            boolean named = origins <= 8;
            Due.is(origins + " origins away", x.entry(1, 6), named ? 2 : -1);
            Due.is(origins + " origins away, frame", x.frame(0, 3), named ? 2 : -1);
            Due.is(origins + " origins away, sign", x.name(0, 1), named ? 'a' : -1);
        }
        Bytes ring = new Bytes().u8(1, 2).u32(27).u64(1).u8(1).u8(2).u32(13).u64(2).u8(1).u8(0);
        AddressNamer x = Due.taken("a ring", Dwarf.file(codes, ring).build(), 3);
        x.find(1);
        Due.is("a ring has no name", x.frame(0, 3), -1);
        Due.is("nor a sign", x.name(0, 0), -1);
        Bytes own = new Bytes().add(Dwarf.code(1, 17, 1)).add(Dwarf.code(2, 46, 0, 49, 19, 3, 8))
                .add(Dwarf.code(3, 46, 0, 3, 8)).u8(0);
        Bytes empty = new Bytes().u8(1, 2).u32(19).text("").u8(3).text("ccc").u8(0);
        AddressNamer y = Due.taken("an empty name", Dwarf.file(own, empty).build(), 3);
        Due.is("an empty name is its name", y.entry(1, 6), 0);
    }

    private static AddressNamer lined(Bytes program) {
        Bytes codes = new Bytes().add(Dwarf.code(1, 46, 0, 17, 1, 18, 5, 16, 23)).u8(0);
        return Due.taken("rows", Dwarf.file(codes, new Bytes().u8(1).u64(0).u16(1000).u32(0))
                .add(".debug_line", new LineTable().program(program).build()).build(), 1);
    }

    private static void governed(String what, AddressNamer x, long address, int file, int line) {
        x.find(address);
        Due.is(what + ": FILE at " + address, x.frame(0, 1), file);
        Due.is(what + ": LINE at " + address, x.frame(0, 2), line);
    }

    /** A row at an address with a line of its own; the program's steps are small ones. */
    private static Bytes at(long address, int lineMore) {
        return new Bytes().add(LineTable.setAddress(address)).u8(3).sleb(lineMore).u8(1);
    }

    /** "A ROW that doesn't END its SEQUENCE GOVERNS from its own on, below that of the next ROW of it." */
    private static void rowGovernsFromItsOwnOn() {
        Bytes end = LineTable.endSequence();
        AddressNamer x = lined(new Bytes().add(at(100, 9)).add(at(110, 10)).add(at(110, 10)).add(at(111, 10))
                .add(LineTable.setAddress(120)).add(end).add(at(130, 99)).add(LineTable.setAddress(131)).add(end));
        int[][] due = {{99, 0, 0}, {100, 1, 10}, {109, 1, 10}, {110, 1, 30}, {111, 1, 40}, {119, 1, 40}, {120, 0, 0},
            {129, 0, 0}, {130, 1, 100}, {131, 0, 0}};
        for (int[] d : due) {
            governed("rows", x, d[0], d[1], d[2]);
        }
        governed("an end alone", lined(new Bytes().add(LineTable.setAddress(5)).add(end)), 5, 0, 0);
        AddressNamer none = lined(new Bytes().add(at(7, 1)).add(end));
        governed("a row that ends where it begins", none, 7, 0, 0);
    }

    /** "those of the first ROW (as they were read) that GOVERNS the ADDRESS (0 and 0 without)". */
    private static void firstRowAsTheyWereRead() {
        Bytes end = LineTable.endSequence();
        AddressNamer x = lined(new Bytes().add(at(200, 4)).add(LineTable.setAddress(210)).add(end)
                .add(at(190, 8)).add(LineTable.setAddress(205)).add(end).add(at(200, 12))
                .add(LineTable.setAddress(220)).add(end));
        int[][] due = {{189, 0, 0}, {190, 1, 9}, {199, 1, 9}, {200, 1, 5}, {205, 1, 5}, {209, 1, 5}, {210, 1, 13},
            {219, 1, 13}, {220, 0, 0}};
        for (int[] d : due) {
            governed("sequences", x, d[0], d[1], d[2]);
        }
    }

    /** "of its UNIT": the rows of other tables don't matter, though they govern. */
    private static void rowsOfItsUnit() {
        Bytes codes = new Bytes().add(Dwarf.code(1, 46, 0, 17, 1, 18, 11, 16, 23))
                .add(Dwarf.code(2, 46, 0, 17, 1, 18, 11)).u8(0);
        Bytes end = LineTable.endSequence();
        LineTable one = new LineTable().program(at(100, 4).add(LineTable.setAddress(200)).add(end));
        LineTable two = new LineTable().program(at(100, 8).add(LineTable.setAddress(200)).add(end));
        Bytes info = new Bytes().add(Dwarf.unit(new Bytes().u8(1).u64(100).u8(10).u32(0)))
                .add(Dwarf.unit(new Bytes().u8(2).u64(110).u8(10)))
                .add(Dwarf.unit(new Bytes().u8(1).u64(120).u8(10).u32(one.build().size())));
        AddressNamer x = Due.taken("three units", new ElfFile().add(".debug_abbrev", codes).add(".debug_info", info)
                .add(".debug_line", new Bytes().add(one.build()).add(two.build())).build(), 3);
        governed("the first unit", x, 109, 1, 5);
        governed("a unit without lines", x, 110, 0, 0);
        Due.is("no file of it", x.frame(0, 4), -1);
        governed("the third unit", x, 120, 1, 9);
    }

    private static AddressNamer calls(Bytes callCodes, Bytes... within) {
        Bytes codes = new Bytes().add(Dwarf.code(1, 46, 1, 17, 1, 18, 11, 16, 23)).add(callCodes).u8(0);
        Bytes e = new Bytes().u8(1).u64(100).u8(10).u32(0);
        for (Bytes w : within) {
            e.add(w);
        }
        return Due.taken("calls", Dwarf.file(codes, e.times(within.length + 1, new Bytes().u8(0)))
                .add(".debug_line", new LineTable().build()).build());
    }

    /** "of each other one FILE and LINE of the call of the one PUT WITHIN that is ahead of it (0 without)". */
    private static void callOfTheOneAhead() {
        Bytes codes = new Bytes().add(Dwarf.code(2, 29, 1, 17, 1, 18, 11, 88, 11, 89, 11))
                .add(Dwarf.code(3, 29, 1, 17, 1, 18, 11)).add(Dwarf.code(4, 11, 1, 17, 1, 18, 11, 88, 11, 89, 11))
                .add(Dwarf.code(5, 29, 1, 17, 1, 18, 11, 88, 11)).add(Dwarf.code(6, 29, 1, 17, 1, 18, 11, 89, 11));
        Bytes range = new Bytes().u64(100).u8(10);
        AddressNamer x = calls(codes, new Bytes().u8(2).add(range).u8(3, 4), new Bytes().u8(4).add(range).u8(5, 6),
                new Bytes().u8(3).add(range), new Bytes().u8(5).add(range).u8(7), new Bytes().u8(6).add(range).u8(8));
        chain("calls", x, 100, 5, 4, 3, 1, 0);
        int[][] due = {{0, 0}, {0, 8}, {7, 0}, {0, 0}, {3, 4}};
        for (int i = 0; i < due.length; i++) {
            Due.is("FILE of " + i, x.frame(i, 1), due[i][0]);
            Due.is("LINE of " + i, x.frame(i, 2), due[i][1]);
        }
    }

    /** "(as ints of their lowest 32 bits; 0 without)". */
    private static void callsAsInts() {
        long[] values = {0, 1, Integer.MAX_VALUE, 1L << 31, (1L << 32) - 1, 1L << 32, (1L << 32) + 1, Long.MAX_VALUE,
            Long.MIN_VALUE, -1};
        Bytes codes = Dwarf.code(2, 29, 1, 17, 1, 18, 11, 88, 7, 89, 7);
        for (long v : values) {
            AddressNamer x = calls(codes, new Bytes().u8(2).u64(100).u8(10).u64(v).u64(v + 1));
            x.find(105);
            Due.is("FILE " + v, x.frame(1, 1), (int) v);
            Due.is("LINE " + v, x.frame(1, 2), (int) (v + 1));
            Due.is("FILE of the entry", x.entry(1, 7), (int) v);
            Due.is("LINE of the entry", x.entry(1, 8), (int) (v + 1));
        }
    }

    /** "A FILE's number means those of the UNIT's table, from 0 on." */
    private static void filesFromZeroOn() {
        int[][] due = {{0, 3}, {1, 4}, {2, -1}, {3, -1}, {Integer.MAX_VALUE, -1}, {Integer.MIN_VALUE, -1}, {-1, -1}};
        Bytes codes = Dwarf.code(2, 29, 1, 17, 1, 18, 11, 88, 6);
        for (int[] d : due) {
            AddressNamer x = calls(codes, new Bytes().u8(2).u64(100).u8(10).u32(d[0]));
            x.find(105);
            Due.is("signs of FILE " + d[0], x.frame(1, 4), d[1]);
            Due.is("its first sign", x.file(1, 0), d[0] == 0 ? 'a' : d[0] == 1 ? 'b' : -1);
            Due.is("its last sign", x.file(1, d[1] - 1), d[1] > 0 ? 'c' : -1);
            Due.is("behind its last sign", x.file(1, Math.max(0, d[1])), -1);
        }
    }

    /** A number below 0 isn't one of the files of the unit ahead, nor one above the last of the unit behind. */
    private static void filesOfOtherUnits() {
        Bytes codes = new Bytes().add(Dwarf.code(1, 46, 1, 17, 1, 18, 11, 16, 23))
                .add(Dwarf.code(2, 29, 0, 17, 1, 18, 11, 88, 6)).u8(0);
        int[][] due = {{-2, -1}, {-1, -1}, {0, 3}, {1, 4}, {2, -1}};
        for (int[] d : due) {
            Bytes info = new Bytes();
            for (int u = 0; u < 3; u++) {
                info.add(Dwarf.unit(new Bytes().u8(1).u64(100 * u).u8(10).u32(0)
                        .u8(2).u64(100 * u).u8(10).u32(d[0]).u8(0)));
            }
            AddressNamer x = Due.taken("three units", new ElfFile().add(".debug_abbrev", codes)
                    .add(".debug_info", info).add(".debug_line", new LineTable().build()).build(), 6);
            for (int u = 0; u < 3; u++) {
                x.find(100 * u);
                Due.is("signs of FILE " + d[0] + " of unit " + u, x.frame(1, 4), d[1]);
                Due.is("its first sign", x.file(1, 0), d[0] == 0 ? 'a' : d[0] == 1 ? 'b' : -1);
            }
        }
    }

    private static AddressNamer symbols(Bytes rows) {
        return Due.taken("symbols", new ElfFile().add(".symtab", rows).add(".strtab", new Bytes().text("ab")).build(), 0);
    }

    private static void found(AddressNamer x, long address, int symbol, int above) {
        Due.is("find(" + address + ")", x.find(address), 0);
        Due.is("symbol(0) of " + address, x.symbol(0), symbol);
        Due.is("symbol(2) of " + address, x.symbol(2), above);
        Due.is("name of " + address, x.name(-1, 1), symbol == -1 ? -1 : 'b');
    }

    /** "Without a CHAIN: the SYMBOL that holds it (VALUE on, below VALUE and SIZE)". */
    private static void symbolFromValueOn() {
        AddressNamer x = symbols(Dwarf.symbol(0, 2, 1, 100, 10));
        found(x, 99, -1, -1);
        found(x, 100, 0, 0);
        found(x, 101, 0, 1);
        found(x, 109, 0, 9);
        found(x, 110, -1, -1);
        found(x, -1, -1, -1);
        AddressNamer all = symbols(Dwarf.symbol(0, 2, 1, 0, Long.MAX_VALUE));
        found(all, -1, -1, -1);
        found(all, 0, 0, 0);
        found(all, Long.MAX_VALUE - 1, 0, -2);
        found(all, Long.MAX_VALUE, -1, -1);
        found(all, Integer.MAX_VALUE, 0, Integer.MAX_VALUE);
        found(all, 1L << 31, 0, Integer.MIN_VALUE);
        found(all, (1L << 32) - 1, 0, -1);
        found(all, 1L << 32, 0, 0);
        found(all, (1L << 32) + 1, 0, 1);
        found(all, Long.MIN_VALUE, -1, -1);
    }

    /** "the one with the greatest VALUE, of like ones the first". */
    private static void symbolWithTheGreatestValue() {
        Bytes rows = new Bytes().add(Dwarf.symbol(0, 2, 1, 100, 100)).add(Dwarf.symbol(0, 2, 1, 101, 20))
                .add(Dwarf.symbol(0, 2, 1, 101, 50)).add(Dwarf.symbol(0, 2, 1, 100, 200))
                .add(Dwarf.symbol(0, 2, 1, 99, 300)).add(Dwarf.symbol(0, 2, 1, 102, 1));
        AddressNamer x = symbols(rows);
        found(x, 99, 4, 0);
        found(x, 100, 0, 0);
        found(x, 101, 1, 0);
        found(x, 102, 5, 0);
        found(x, 103, 1, 2);
        found(x, 120, 1, 19);
        found(x, 121, 2, 20);
        found(x, 150, 2, 49);
        found(x, 151, 0, 51);
        found(x, 199, 0, 99);
        found(x, 200, 3, 100);
        found(x, 299, 3, 199);
        found(x, 300, 4, 201);
        found(x, 399, -1, -1);
    }
}
