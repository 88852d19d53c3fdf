/** Part 4 of the terms, sentence by sentence: ranges at their boundaries. */
public final class RangeEdgeTest {
    private static final long MOST = Long.MAX_VALUE;
    private static final Bytes BY_ADDRESS = new Bytes().add(Dwarf.code(1, 46, 0, 17, 1, 18, 1)).u8(0);
    private static final Bytes BY_MORE = new Bytes().add(Dwarf.code(1, 46, 0, 17, 1, 18, 7)).u8(0);

    public static void main(String[] args) {
        fromLowOnBelowHigh();
        highBelowLow();
        highThatIsNoAddress();
        lowAndHighAheadOfRanges();
        offsetOfAList();
        baseIsLowOfTheFirstEntry();
        baseOfALaterUnit();
        zeroEndsTheList();
        kindsOfRows();
        rowsOfKindFour();
        rowsOfKindFive();
        rowsOfKindSix();
        rowsOfKindSeven();
        atMostTwoHundredRanges();
        emptyOnesToo();
        atTheEntryOfLowAndHigh();
        readWhenAllUnitsAre();
        Due.finish("RangeEdgeTest");
    }

    /** Held from one on, below another one, and nothing beside. */
    private static void held(String what, AddressNamer x, int e, long low, long high) {
        Due.is(what + ": below the first", x.holds(e, low - 1), false);
        Due.is(what + ": the first", x.holds(e, low), low < high);
        Due.is(what + ": the last", x.holds(e, high - 1), low < high);
        Due.is(what + ": behind the last", x.holds(e, high), false);
    }

    private static AddressNamer one(Bytes codes, long low, long high) {
        return Due.taken("a range", Dwarf.file(codes, new Bytes().u8(1).u64(low).u64(high)).build(), 1);
    }

    /** "with LOW and HIGH one, from LOW on, below HIGH". */
    private static void fromLowOnBelowHigh() {
        long[][] ranges = {{0, 1}, {0, 2}, {5, 6}, {5, 9}, {0, MOST}, {MOST - 1, MOST}, {7, 7}, {0, 0}, {MOST, MOST}};
        for (long[] r : ranges) {
            AddressNamer x = one(BY_ADDRESS, r[0], r[1]);
            held("by an address", x, 0, r[0], r[1]);
            Due.is("one range", x.entry(0, 4), 1);
            Due.is("one of all", x.count(5), 1);
            held("by how much more", one(BY_MORE, r[0], r[1] - r[0]), 0, r[0], r[1]);
        }
    }

    private static void entry(String what, Bytes codes, long low, long high, int fault) {
        Edge.entries(what, codes, new Bytes().u8(1).u64(low).u64(high), 0, fault);
    }

    /** "(HIGH below LOW: 2, at the ENTRY)". */
    private static void highBelowLow() {
        entry("one above", BY_ADDRESS, 9, 10, Edge.WELL);
        entry("alike", BY_ADDRESS, 9, 9, Edge.WELL);
        entry("one below", BY_ADDRESS, 9, 8, 2);
        entry("far below", BY_ADDRESS, MOST, 0, 2);
        int[] more = {0, 1, -1, -9, -10};
        for (int m : more) {
            Bytes byCode = new Bytes().u8(1, 46, 0, 17, 1, 18, 33).sleb(m).u8(0, 0, 0);
            Edge.entries(m + " more by the code", byCode, new Bytes().u8(1).u64(9), 0, m < 0 ? 2 : Edge.WELL);
        }
    }

    /** "(or no ADDRESS: 2, at the ENTRY)": a sum beyond them all is none, also beyond 64 bits. */
    private static void highThatIsNoAddress() {
        entry("the greatest", BY_MORE, 9, MOST - 9, Edge.WELL);
        entry("one above it", BY_MORE, 9, MOST - 8, 2);
        entry("two above it", BY_MORE, 9, MOST - 7, 2);
        entry("so much that the sum has 65 bits", BY_MORE, 9, -9, 2);
        entry("one less than that", BY_MORE, 9, -10, 2);
        entry("the greatest of all", BY_MORE, MOST, -1, 2);
        entry("nothing above the greatest", BY_MORE, MOST, 0, Edge.WELL);
        entry("one above the greatest", BY_MORE, MOST, 1, 2);
    }

    /** "else, with RANGES": they aren't read of an entry that has LOW and HIGH. */
    private static void lowAndHighAheadOfRanges() {
        Bytes list = new Bytes().u8(6).u64(50).u64(60).u8(0);
        Bytes both = new Bytes().add(Dwarf.code(1, 46, 0, 85, 23, 17, 1, 18, 11)).u8(0);
        AddressNamer x = Due.taken("all three", Dwarf.file(both, new Bytes().u8(1).u32(99).u64(5).u8(1))
                .add(".debug_rnglists", list).build(), 1);
        held("LOW and HIGH", x, 0, 5, 6);
        Bytes low = new Bytes().add(Dwarf.code(1, 46, 0, 85, 23, 17, 1)).u8(0);
        AddressNamer y = Due.taken("LOW and RANGES", Dwarf.file(low, new Bytes().u8(1).u32(0).u64(5))
                .add(".debug_rnglists", list).build(), 1);
        held("RANGES", y, 0, 50, 60);
        Bytes high = new Bytes().add(Dwarf.code(1, 46, 0, 85, 23, 18, 1)).u8(0);
        AddressNamer z = Due.taken("HIGH and RANGES", Dwarf.file(high, new Bytes().u8(1).u32(0).u64(5))
                .add(".debug_rnglists", list).build(), 1);
        held("RANGES", z, 0, 50, 60);
        Bytes none = new Bytes().add(Dwarf.code(1, 46, 0)).u8(0);
        Due.is("none of them", Due.taken("none", Dwarf.file(none, new Bytes().u8(1)).build(), 1).entry(0, 4), 0);
    }

    /** "(an offset that isn't in it: 3, at the ENTRY)". */
    private static void offsetOfAList() {
        Bytes codes = new Bytes().add(Dwarf.code(1, 17, 1)).add(Dwarf.code(2, 46, 0, 85, 23)).u8(0);
        Bytes lists = new Bytes().u8(4, 1, 2, 0, 0);
        long[][] due = {{0, 0}, {3, 0}, {4, 0}, {5, 3}, {6, 3}, {1L << 31, 3}, {-1, 3}};
        for (long[] d : due) {
            ElfFile elf = Dwarf.file(codes, new Bytes().u8(1, 2).u32(d[0]).u8(0)).add(".debug_rnglists", lists);
            Edge.ask("a list at " + d[0], elf, ".debug_info", 13, (int) d[1]);
        }
    }

    /** "BASE is LOW of the UNIT's first ENTRY, 0 without." */
    private static void baseIsLowOfTheFirstEntry() {
        Bytes list = new Bytes().u8(4).uleb(10, 20).u8(0);
        Bytes codes = new Bytes().add(Dwarf.code(1, 17, 1, 17, 1)).add(Dwarf.code(2, 17, 1))
                .add(Dwarf.code(3, 46, 0, 17, 1, 85, 23)).u8(0);
        Bytes inner = new Bytes().u8(3).u64(7).u32(0).u8(0);
        long[] bases = {0, 1, 1000};
        for (long base : bases) {
            AddressNamer x = Due.taken("LOW " + base, Dwarf.file(codes, new Bytes().u8(1).u64(base).add(inner))
                    .add(".debug_rnglists", list).build(), 2);
            held("BASE " + base, x, 1, base + 10, base + 20);
        }
        AddressNamer x = Due.taken("no LOW", Dwarf.file(codes, new Bytes().u8(2).add(inner))
                .add(".debug_rnglists", list).build(), 2);
        held("BASE 0", x, 1, 10, 20);
    }

    /** Each list begins with the BASE of its own unit, whatever the list ahead has set. */
    private static void baseOfALaterUnit() {
        Bytes list = new Bytes().u8(4).uleb(1, 2).u8(5).u64(500).u8(4).uleb(1, 2).u8(0);
        Bytes codes = new Bytes().add(Dwarf.code(1, 17, 0, 17, 1, 85, 23)).add(Dwarf.code(2, 17, 0, 85, 23)).u8(0);
        Bytes info = new Bytes().add(Dwarf.unit(new Bytes().u8(1).u64(100).u32(0)))
                .add(Dwarf.unit(new Bytes().u8(2).u32(0))).add(Dwarf.unit(new Bytes().u8(1).u64(200).u32(0)));
        AddressNamer x = Due.taken("three units", new ElfFile().add(".debug_abbrev", codes).add(".debug_info", info)
                .add(".debug_rnglists", list).build(), 3);
        long[] bases = {100, 0, 200};
        for (int e = 0; e < 3; e++) {
            held("unit " + e, x, e, bases[e] + 1, bases[e] + 2);
            held("unit " + e + " behind 5", x, e, 501, 502);
            Due.is("two of unit " + e, x.entry(e, 4), 2);
        }
    }

    private static void list(String what, long base, Bytes rows, int place, int fault) {
        Edge.ask(what, Edge.listed(base, rows), ".debug_rnglists", place, fault);
    }

    /** "a byte 0 ends it": what stands behind it is none of the list's. */
    private static void zeroEndsTheList() {
        list("an empty list", 0, new Bytes().u8(0), 0, Edge.WELL);
        list("anything behind it", 0, new Bytes().u8(0, 255), 0, Edge.WELL);
        list("a row and no end", 0, new Bytes().u8(4, 1, 2), 3, 1);
        list("a row, no end, anything", 0, new Bytes().u8(4, 1, 2, 255), 3, 2);
        AddressNamer x = Due.taken("two lists", Edge.listed(0, new Bytes().u8(4, 1, 2, 0, 4, 5, 6, 0)).build(), 1);
        Due.is("the first list alone", x.entry(0, 4), 1);
        AddressNamer y = Due.taken("no rows", Edge.listed(0, new Bytes().u8(0)).build(), 1);
        Due.is("no ranges", y.entry(0, 4), 0);
    }

    /** "Another byte: 2, at it". */
    private static void kindsOfRows() {
        Bytes[] rows = new Bytes[256];
        rows[0] = new Bytes().u8(0);
        rows[4] = new Bytes().u8(4, 1, 2, 0);
        rows[5] = new Bytes().u8(5).u64(1).u8(0);
        rows[6] = new Bytes().u8(6).u64(1).u64(2).u8(0);
        rows[7] = new Bytes().u8(7).u64(1).u8(2, 0);
        for (int kind = 0; kind < 256; kind++) {
            Bytes row = rows[kind] == null ? new Bytes().u8(kind).u64(0).u64(0).u8(0) : rows[kind];
            list("row " + kind, 0, row, 0, rows[kind] == null ? 2 : Edge.WELL);
        }
    }

    private static Bytes four(long first, long second) {
        return new Bytes().u8(4).uleb(first, second).u8(0);
    }

    /** "4: two ULEB, both more than BASE". */
    private static void rowsOfKindFour() {
        held("4", Due.taken("4", Edge.listed(100, four(0, 1)).build(), 1), 0, 100, 101);
        held("4, empty", Due.taken("4", Edge.listed(100, four(5, 5)).build(), 1), 0, 105, 105);
        list("backwards by one", 100, four(6, 5), 0, 2);
        list("up to the greatest", 100, four(0, MOST - 100), 0, Edge.WELL);
        list("one above", 100, four(0, MOST - 99), 0, 2);
        list("from the greatest on", 100, four(MOST - 100, MOST - 100), 0, Edge.WELL);
        list("from one above on", 100, four(MOST - 99, MOST - 99), 0, 2);
        list("a sum of 64 bits alone", 100, four(-101, -101), 0, 2);
        list("a sum of 65 bits, which is 0 without the highest", 100, four(-100, -100), 0, 2);
        list("a sum of 65 bits", 100, four(-99, -99), 0, 2);
        list("the first of 65 bits", 100, four(-100, 5), 0, 2);
        list("the second of 65 bits", 100, four(0, -1), 0, 2);
        list("no BASE, the greatest", 0, four(MOST, MOST), 0, Edge.WELL);
        list("no BASE, one above", 0, four(MOST, Long.MIN_VALUE), 0, 2);
    }

    /** "5: BASE is this ADDRESS (8)". */
    private static void rowsOfKindFive() {
        long[] bases = {0, 1, MOST, Long.MIN_VALUE, -1};
        for (long base : bases) {
            list("BASE " + base, 3, new Bytes().u8(5).u64(base).u8(0), 0, base < 0 ? 2 : Edge.WELL);
        }
        Bytes rows = new Bytes().u8(5).u64(40).u8(4).uleb(1, 2).u8(5).u64(0).u8(4).uleb(7, 8).u8(0);
        AddressNamer x = Due.taken("5", Edge.listed(100, rows).build(), 1);
        held("BASE 40", x, 0, 41, 42);
        held("BASE 0", x, 0, 7, 8);
        Due.is("5 is no range", x.entry(0, 4), 2);
        list("at the second row", 0, new Bytes().u8(5).u64(1).u8(5).u64(-1).u8(0), 9, 2);
    }

    private static Bytes six(long first, long second) {
        return new Bytes().u8(6).u64(first).u64(second).u8(0);
    }

    /** "6: two ADDRESSES", "one that is no ADDRESS, or a second one below the first: 2, at the row". */
    private static void rowsOfKindSix() {
        held("6", Due.taken("6", Edge.listed(100, six(5, 6)).build(), 1), 0, 5, 6);
        list("up to the greatest", 100, six(0, MOST), 0, Edge.WELL);
        list("alike", 100, six(MOST, MOST), 0, Edge.WELL);
        list("backwards by one", 100, six(6, 5), 0, 2);
        list("the first is none", 100, six(-1, 5), 0, 2);
        list("the second is none", 100, six(5, -1), 0, 2);
        list("the second is far from one", 100, six(5, Long.MIN_VALUE), 0, 2);
        list("both are none", 100, six(-2, -1), 0, 2);
    }

    private static Bytes seven(long first, long more) {
        return new Bytes().u8(7).u64(first).uleb(more).u8(0);
    }

    /** "7: an ADDRESS and an ULEB that is how much more". */
    private static void rowsOfKindSeven() {
        held("7", Due.taken("7", Edge.listed(100, seven(5, 3)).build(), 1), 0, 5, 8);
        held("7, empty", Due.taken("7", Edge.listed(100, seven(5, 0)).build(), 1), 0, 5, 5);
        list("up to the greatest", 100, seven(5, MOST - 5), 0, Edge.WELL);
        list("one above", 100, seven(5, MOST - 4), 0, 2);
        list("a sum of 65 bits", 100, seven(5, -5), 0, 2);
        list("a sum of 65 bits, above the first", 100, seven(5, -1), 0, 2);
        list("the first is none", 100, seven(-1, 0), 0, 2);
        list("the first is none, the sum is one", 100, seven(-1, 2), 0, 2);
    }

    /** "At most 200 RANGES of all ENTRIES (else 4, at the row)". */
    private static void atMostTwoHundredRanges() {
        Bytes[] rows = {new Bytes().u8(4, 1, 2), new Bytes().u8(6).u64(1).u64(2), new Bytes().u8(7).u64(1).u8(1)};
        for (Bytes row : rows) {
            for (int number = 199; number <= 201; number++) {
                list(number + " ranges", 0, new Bytes().times(number, row).u8(0), 200 * row.size(),
                        number > 200 ? 4 : Edge.WELL);
            }
        }
        Bytes full = new Bytes().times(200, rows[0]);
        list("5 is none of them", 0, new Bytes().add(full).u8(5).u64(1).u8(0), 0, Edge.WELL);
        list("the 201st is backwards", 0, new Bytes().add(full).u8(4, 2, 1, 0), 600, 2);
        list("the 201st is another byte", 0, new Bytes().add(full).u8(3, 0), 600, 2);
        list("the 201st is no address", 0, new Bytes().add(full).add(seven(-1, 0)), 600, 2);
        Bytes codes = new Bytes().add(Dwarf.code(1, 17, 1)).add(Dwarf.code(2, 46, 0, 85, 23)).u8(0);
        for (int number = 99; number <= 101; number++) {
            Bytes lists = new Bytes().times(100, rows[0]).u8(0).times(number, rows[0]).u8(0);
            Edge.ask("100 and " + number, Dwarf.file(codes, new Bytes().u8(1, 2).u32(0).u8(2).u32(301).u8(0))
                    .add(".debug_rnglists", lists), ".debug_rnglists", 301 + 300, number > 100 ? 4 : Edge.WELL);
        }
    }

    /** "(empty ones, too)". */
    private static void emptyOnesToo() {
        for (int number = 199; number <= 201; number++) {
            list(number + " empty ones", 0, new Bytes().times(number, new Bytes().u8(4, 7, 7)).u8(0), 600,
                    number > 200 ? 4 : Edge.WELL);
        }
        AddressNamer x = Due.taken("empty ones", Edge.listed(0, new Bytes().u8(4, 7, 7, 4, 8, 8, 0)).build(), 1);
        Due.is("two of the entry", x.entry(0, 4), 2);
        Due.is("two of all", x.count(5), 2);
    }

    /** "of LOW and HIGH at the ENTRY". */
    private static void atTheEntryOfLowAndHigh() {
        Bytes codes = new Bytes().add(Dwarf.code(1, 17, 1)).add(Dwarf.code(2, 46, 0, 85, 23))
                .add(Dwarf.code(3, 46, 0, 17, 1, 18, 11)).u8(0);
        for (int number = 198; number <= 200; number++) {
            Bytes list = new Bytes().times(number, new Bytes().u8(4, 1, 2)).u8(0);
            Bytes e = new Bytes().u8(1, 2).u32(0).u8(3).u64(5).u8(1).u8(0);
            Edge.ask(number + " and LOW and HIGH", Dwarf.file(codes, e).add(".debug_rnglists", list), ".debug_info",
                    12 + 6, number > 199 ? 4 : Edge.WELL);
        }
        Bytes list = new Bytes().times(200, new Bytes().u8(4, 1, 2)).u8(0);
        Bytes e = new Bytes().u8(1, 2).u32(0).u8(3).u64(Long.MAX_VALUE).u8(1).u8(0);
        Edge.ask("the 201st is no address", Dwarf.file(codes, e).add(".debug_rnglists", list), ".debug_info", 18, 2);
        Bytes none = new Bytes().u8(1, 2).u32(0).u8(2).u32(600).u8(0);
        Edge.ask("an empty list is no range", Dwarf.file(codes, none).add(".debug_rnglists", list), ".debug_info", 0,
                Edge.WELL);
    }

    /** "They are read, ENTRY by ENTRY, when all UNITS are." */
    private static void readWhenAllUnitsAre() {
        Bytes wrong = Dwarf.unit(new Bytes().u8(1).u64(2).u64(1));
        ElfFile both = new ElfFile().add(".debug_abbrev", BY_ADDRESS)
                .add(".debug_info", new Bytes().add(wrong).add(wrong));
        Edge.ask("the first entry's fault", both, ".debug_info", 12, 2);
        ElfFile later = new ElfFile().add(".debug_abbrev", BY_ADDRESS)
                .add(".debug_info", new Bytes().add(wrong).add(Dwarf.unit(new Bytes().u8(2))));
        Edge.ask("a later unit's fault is asked first", later, ".debug_info", wrong.size() + 12, 3);
        Bytes codes = new Bytes().add(Dwarf.code(1, 17, 0, 17, 1, 18, 1, 16, 23)).u8(0);
        ElfFile lines = Dwarf.file(codes, new Bytes().u8(1).u64(2).u64(1).u32(99));
        Edge.ask("lines are asked behind", lines, ".debug_info", 12, 2);
    }
}
