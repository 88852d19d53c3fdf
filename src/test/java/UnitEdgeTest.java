/** Part 3 of the terms, sentence by sentence: units and abbreviations at their boundaries. */
public final class UnitEdgeTest {
    private static final Bytes PLAIN = new Bytes().add(Dwarf.code(1, 17, 0)).u8(0);
    private static final Bytes ONE = Dwarf.unit(new Bytes().u8(1));

    public static void main(String[] args) {
        lengthOfAUnit();
        unitsStandBehindOneAnother();
        versionKindAndSize();
        offsetOfAbbreviations();
        atMostTwentyUnits();
        codeZeroEndsTheTable();
        children();
        pairsEndByTwoZeros();
        codeThatIsThereAlready();
        formsThatAreKnown();
        valueBehindForm33();
        atMostFortyCodes();
        atMostSixteenPairs();
        Due.finish("UnitEdgeTest");
    }

    private static void units(String what, Bytes abbreviations, Bytes info, int place, int fault) {
        Edge.ask(what, new ElfFile().add(".debug_abbrev", abbreviations).add(".debug_info", info), ".debug_info",
                place, fault);
    }

    private static Bytes told(long length) {
        return new Bytes().u32(length).add(ONE.part(4, ONE.size()));
    }

    /** "length (4294967280 and more: 2; else, not in the SECTION: 1; both at its begin)". */
    private static void lengthOfAUnit() {
        int behind = ONE.size() - 4;
        units("just so many", PLAIN, told(behind), 0, Edge.WELL);
        units("one more", PLAIN, told(behind + 1), 0, 1);
        units("one less", PLAIN, told(behind - 1), 12, 1);
        units("nothing", PLAIN, told(0), 4, 1);
        units("2147483648", PLAIN, told(1L << 31), 0, 1);
        units("4294967279", PLAIN, told(4294967279L), 0, 1);
        units("4294967280", PLAIN, told(4294967280L), 0, 2);
        units("4294967281", PLAIN, told(4294967281L), 0, 2);
        units("4294967295", PLAIN, told(4294967295L), 0, 2);
        Bytes both = new Bytes().add(ONE);
        units("one more in a second unit", PLAIN, new Bytes().add(both).add(told(behind + 1)), ONE.size(), 1);
        units("4294967280 in a second unit", PLAIN, new Bytes().add(both).add(told(4294967280L)), ONE.size(), 2);
    }

    /** "UNITS stand in .debug_info, one behind the other". */
    private static void unitsStandBehindOneAnother() {
        AddressNamer none = Due.taken("no units", new ElfFile().add(".debug_info", new Bytes()).build(), 0);
        Due.is("no units", none.count(3), 0);
        for (int rest = 1; rest < 4; rest++) {
            Bytes few = new Bytes().times(rest, new Bytes().u8(0));
            units("nothing but " + rest + " bytes", PLAIN, few, 0, 1);
            units(rest + " bytes behind a unit", PLAIN, new Bytes().add(ONE).add(few), ONE.size(), 1);
        }
        units("a length behind a unit", PLAIN, new Bytes().add(ONE).u32(0), ONE.size() + 4, 1);
        Bytes reaching = new Bytes().add(told(ONE.size() - 3)).add(ONE);
        units("a unit that reaches into the next one", PLAIN, reaching, ONE.size(), 2);
    }

    private static Bytes head(int version, int kind, int size) {
        return new Bytes().u32(9).u16(version).u8(kind, size).u32(0).u8(1);
    }

    /** "version (2: 5), kind (1: 1), size of ADDRESSES (1: 8) (each else 2, at its own place)". */
    private static void versionKindAndSize() {
        int[] versions = {0, 4, 5, 6, 261, 1280, 65535};
        for (int v : versions) {
            units("version " + v, PLAIN, head(v, 1, 8), 4, v == 5 ? Edge.WELL : 2);
        }
        int[] kinds = {0, 1, 2, 129, 255};
        for (int k : kinds) {
            units("kind " + k, PLAIN, head(5, k, 8), 6, k == 1 ? Edge.WELL : 2);
        }
        int[] sizes = {0, 4, 7, 8, 9, 136, 255};
        for (int s : sizes) {
            units("addresses of " + s, PLAIN, head(5, 1, s), 7, s == 8 ? Edge.WELL : 2);
        }
        units("version and kind", PLAIN, head(4, 2, 8), 4, 2);
        units("kind and size", PLAIN, head(5, 2, 9), 6, 2);
        units("size and offset", PLAIN, new Bytes().u32(9).u16(5).u8(1, 9).u32(99).u8(1), 7, 2);
    }

    /** "offset of its ABBREVIATIONS in .debug_abbrev (4)", below its size (else 3). */
    private static void offsetOfAbbreviations() {
        Bytes two = new Bytes().u8(0).add(PLAIN);
        units("at 0: no codes", two, Dwarf.unit(0, new Bytes().u8(1)), 12, 3);
        units("at 1", two, Dwarf.unit(1, new Bytes().u8(1)), 0, Edge.WELL);
        units("its last byte: no codes", two, Dwarf.unit(two.size() - 1, new Bytes().u8(1)), 12, 3);
        units("its size", two, Dwarf.unit(two.size(), new Bytes().u8(1)), 8, 3);
        units("one more", two, Dwarf.unit(two.size() + 1, new Bytes().u8(1)), 8, 3);
        units("the greatest", two, Dwarf.unit(-1, new Bytes().u8(1)), 8, 3);
    }

    /** "At most 20 (the 21st: 4, at its begin)." */
    private static void atMostTwentyUnits() {
        for (int number = 19; number <= 21; number++) {
            units(number + " units", PLAIN, new Bytes().times(number, ONE), 20 * ONE.size(),
                    number > 20 ? 4 : Edge.WELL);
        }
        Bytes twenty = new Bytes().times(20, ONE);
        int begin = twenty.size();
        AddressNamer x = Due.taken("20 units", new ElfFile().add(".debug_abbrev", PLAIN).add(".debug_info", twenty)
                .build(), 20);
        Due.is("count(3)", x.count(3), 20);
        Due.is("the last entry's unit", x.entry(19, 2), 19);
        units("the 21st with a length that can't be", PLAIN, new Bytes().add(twenty).u32(-1), begin, 2);
        units("the 21st, not in the section", PLAIN, new Bytes().add(twenty).u32(1), begin, 1);
        units("the 21st, cut", PLAIN, new Bytes().add(twenty).u8(1), begin, 1);
        units("the 21st with another version", PLAIN, new Bytes().add(twenty).add(head(4, 1, 8)), begin, 4);
    }

    /** "rows of code (ULEB; 0 ends them)": what stands behind the 0 is none of the table's. */
    private static void codeZeroEndsTheTable() {
        Edge.abbreviations("an ended table", new Bytes().add(PLAIN).u8(255), 0, Edge.WELL);
        Edge.abbreviations("a table that isn't ended", PLAIN.part(0, 5), 5, 1);
        Edge.abbreviations("what stands behind is read without the 0", new Bytes().add(PLAIN.part(0, 5)).u8(255),
                5, 1);
        Bytes behind = new Bytes().add(PLAIN).add(Dwarf.code(2, 17, 0)).u8(0);
        units("a code behind the 0", behind, Dwarf.unit(new Bytes().u8(2)), 12, 3);
        units("a code 0 is none", new Bytes().u8(0), Dwarf.unit(new Bytes().u8(1)), 12, 3);
    }

    /** "children (1 byte: 0 or 1; else 2)". */
    private static void children() {
        Bytes alone = new Bytes().u8(1, 17, 0, 0, 0, 0);
        units("children 0", alone, Dwarf.unit(new Bytes().u8(1)), 0, Edge.WELL);
        Bytes parent = new Bytes().u8(1, 17, 1, 0, 0, 0);
        units("children 1", parent, Dwarf.unit(new Bytes().u8(1, 0)), 0, Edge.WELL);
        units("children 1, not ended", parent, Dwarf.unit(new Bytes().u8(1)), 13, 1);
        int[] others = {2, 3, 127, 128, 255};
        for (int c : others) {
            Edge.abbreviations("children " + c, new Bytes().u8(1, 17, c, 0, 0, 0), 2, 2);
        }
    }

    /** "pairs of ULEB, until both are 0", "only one of both 0: 2, at the pair". */
    private static void pairsEndByTwoZeros() {
        Edge.abbreviations("no pairs", new Bytes().u8(1, 17, 0, 0, 0, 0), 0, Edge.WELL);
        Edge.abbreviations("attribute 0", new Bytes().u8(1, 17, 0, 0, 25, 0, 0, 0), 3, 2);
        Edge.abbreviations("form 0", new Bytes().u8(1, 17, 0, 1, 0, 0, 0, 0), 3, 2);
        Edge.abbreviations("a pair", new Bytes().u8(1, 17, 0, 1, 25, 0, 0, 0), 0, Edge.WELL);
        Edge.abbreviations("attribute 0 behind a pair", new Bytes().u8(1, 17, 0, 1, 25, 0, 25, 0, 0, 0), 5, 2);
        Edge.abbreviations("form 0 behind a pair", new Bytes().u8(1, 17, 0, 1, 25, 1, 0, 0, 0, 0), 5, 2);
        Edge.abbreviations("a wide attribute", new Bytes().u8(1, 17, 0).uleb(1L << 32, 25).u8(0, 0, 0), 0, Edge.WELL);
        Edge.abbreviations("a wide attribute, form 0", new Bytes().u8(1, 17, 0).uleb(1L << 32, 0).u8(0), 3, 2);
        Edge.abbreviations("attribute 0, a wide form", new Bytes().u8(1, 17, 0).uleb(0, 1L << 32).u8(0), 3, 2);
    }

    /** "A code that is there already in this table: 2, at it". */
    private static void codeThatIsThereAlready() {
        Bytes first = Dwarf.code(1, 17, 0);
        Edge.abbreviations("again", new Bytes().add(first).add(first).u8(0), first.size(), 2);
        Edge.abbreviations("one more", new Bytes().add(first).add(Dwarf.code(2, 17, 0)).u8(0), 0, Edge.WELL);
        Edge.abbreviations("in more bytes", new Bytes().add(first).padded(1, 4).u8(17, 0, 0, 0, 0), first.size(), 2);
        Edge.abbreviations("wide ones", new Bytes().add(first).add(Dwarf.code((1L << 32) + 1, 17, 0))
                .add(Dwarf.code((1L << 63) + 1, 17, 0)).u8(0), 0, Edge.WELL);
        Bytes wide = Dwarf.code(-1, 17, 0);
        Edge.abbreviations("a wide one again", new Bytes().add(first).add(wide).add(wide).u8(0),
                first.size() + wide.size(), 2);
        Bytes tables = new Bytes().add(PLAIN).add(PLAIN);
        units("in another table", tables, new Bytes().add(ONE).add(Dwarf.unit(PLAIN.size(), new Bytes().u8(1))),
                0, Edge.WELL);
        units("the same table twice", PLAIN, new Bytes().add(ONE).add(ONE), 0, Edge.WELL);
    }

    private static boolean isForm(int form) {
        for (int f : Forms.ALL) {
            if (f == form) {
                return true;
            }
        }
        return false;
    }

    /** "a form that isn't one of those below: 2, at the pair". */
    private static void formsThatAreKnown() {
        Bytes first = Dwarf.code(1, 17, 0);
        for (int form = 1; form <= 300; form++) {
            Bytes b = new Bytes().add(first).u8(2, 17, 0).uleb(500, form).u8(0, 0, 0, 0);
            Edge.abbreviations("form " + form, b, first.size() + 3, isForm(form) ? Edge.WELL : 2);
        }
        for (int form : Forms.ALL) {
            Bytes wide = new Bytes().add(first).u8(2, 17, 0).uleb(500, form + (1L << 32)).u8(0, 0, 0, 0);
            Edge.abbreviations("form " + form + " and 4294967296", wide, first.size() + 3, 2);
            Bytes below = new Bytes().add(first).u8(2, 17, 0).uleb(500, form + (1L << 63)).u8(0, 0, 0, 0);
            Edge.abbreviations("form " + form + " with the highest bit", below, first.size() + 3, 2);
        }
    }

    /** "behind the form 33 an SLEB, the value": behind 32 and 34 there is none, for they are no forms. */
    private static void valueBehindForm33() {
        Edge.abbreviations("a value", new Bytes().u8(1, 17, 0, 88, 33, 77, 0, 0, 0), 0, Edge.WELL);
        Edge.abbreviations("a value of 0", new Bytes().u8(1, 17, 0, 88, 33, 0, 0, 0, 0), 0, Edge.WELL);
        Edge.abbreviations("no value", new Bytes().u8(1, 17, 0, 88, 33), 5, 1);
        Edge.abbreviations("a value that isn't ended", new Bytes().u8(1, 17, 0, 88, 33, 255), 5, 1);
        Edge.abbreviations("none behind the form 25", new Bytes().u8(1, 17, 0, 88, 25, 0, 0, 0), 0, Edge.WELL);
    }

    private static Bytes codes(int number) {
        Bytes b = new Bytes();
        for (int i = 1; i <= number; i++) {
            b.add(Dwarf.code(i, 17, 0));
        }
        return b;
    }

    /** "the 41st code of a table: 4, at it", "Of two FAULTS at one PLACE the lesser number." */
    private static void atMostFortyCodes() {
        for (int number = 39; number <= 41; number++) {
            Edge.abbreviations(number + " codes", codes(number).u8(0), 40 * 5, number > 40 ? 4 : Edge.WELL);
        }
        Edge.abbreviations("the 41st is there already", codes(40).add(Dwarf.code(40, 17, 0)).u8(0), 200, 2);
        Edge.abbreviations("the 41st is cut", codes(40).u8(128), 200, 1);
        Edge.abbreviations("the 41st with children of 2", codes(40).u8(41, 17, 2, 0, 0, 0), 200, 4);
        Bytes tables = codes(40).u8(0).add(codes(40)).u8(0);
        units("40 codes of each table", tables, new Bytes().add(Dwarf.unit(new Bytes().u8(40)))
                .add(Dwarf.unit(201, new Bytes().u8(40))), 0, Edge.WELL);
        units("the 40th code is one", codes(40).u8(0), Dwarf.unit(new Bytes().u8(41)), 12, 3);
    }

    private static Bytes pairs(int number) {
        return new Bytes().u8(1, 17, 0).times(number, new Bytes().u8(50, 25));
    }

    /** "the 17th pair of a code: 4, at it", "Of two FAULTS at one PLACE the lesser number." */
    private static void atMostSixteenPairs() {
        for (int number = 15; number <= 17; number++) {
            Edge.abbreviations(number + " pairs", pairs(number).u8(0, 0, 0), 35, number > 16 ? 4 : Edge.WELL);
        }
        Edge.abbreviations("the 17th with a form that is none", pairs(16).u8(50, 2, 0, 0, 0), 35, 2);
        Edge.abbreviations("the 17th with form 0", pairs(16).u8(50, 0, 0, 0, 0), 35, 2);
        Edge.abbreviations("the 17th with attribute 0", pairs(16).u8(0, 25, 0, 0, 0), 35, 2);
        Edge.abbreviations("the 17th without a form", pairs(16).u8(50), 36, 1);
        Bytes each = pairs(16).u8(0, 0).u8(2, 17, 0).times(16, new Bytes().u8(50, 25)).u8(0, 0, 0);
        Edge.abbreviations("16 pairs of each code", each, 0, Edge.WELL);
        Bytes last = pairs(15).u8(3, 8).u8(0, 0, 0);
        AddressNamer x = Due.taken("the 16th pair", Dwarf.file(last, new Bytes().u8(1).text("abc")).build(), 1);
        Due.is("the 16th pair is read", x.entry(0, 6), 3);
    }
}
