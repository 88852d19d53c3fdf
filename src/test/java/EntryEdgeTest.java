/** Part 3 of the terms, sentence by sentence: entries, forms and attributes at their boundaries. */
public final class EntryEdgeTest {
    private static final Bytes CODES = new Bytes().add(Dwarf.code(1, 17, 1)).add(Dwarf.code(2, 46, 0)).u8(0);

    public static void main(String[] args) {
        codeThatItsTableHasNot();
        codeZeroAsTheFirst();
        behindTheFirstTheUnitEnds();
        allThatFollowUpToAZero();
        atMostFourHundredEntries();
        atMostTwentyFourWithinOneAnother();
        widthOfEachForm();
        stringsThatAreTold();
        soManyBytesAsAnUlebTells();
        presentIsOne();
        placeOfAReference();
        referencesAreAskedWhenAllAreRead();
        attributesWithTheirForms();
        firstOfSeveralAlike();
        abstractAheadOfDeclared();
        linesOfTheFirstEntryAlone();
        Due.finish("EntryEdgeTest");
    }

    /** "A code that its table hasn't: 3, at it." */
    private static void codeThatItsTableHasNot() {
        Edge.entries("the last code", CODES, new Bytes().u8(2), 0, Edge.WELL);
        Edge.entries("one behind the last", CODES, new Bytes().u8(3), 0, 3);
        Edge.entries("one behind, within", CODES, new Bytes().u8(1, 2, 3, 0), 2, 3);
        Edge.entries("a wide one", CODES, new Bytes().uleb((1L << 32) + 2), 0, 3);
        Edge.entries("in more bytes", CODES, new Bytes().padded(2, 5), 0, Edge.WELL);
        Bytes other = new Bytes().add(CODES).add(Dwarf.code(9, 17, 0)).u8(0);
        Edge.entries("a code of another table", other, new Bytes().u8(9), 0, 3);
    }

    /** "a code 0 as the first: 2". */
    private static void codeZeroAsTheFirst() {
        Edge.entries("0", CODES, new Bytes().u8(0), 0, 2);
        Edge.entries("0, then a code", CODES, new Bytes().u8(0, 2), 0, 2);
        Edge.entries("0 in two bytes", CODES, new Bytes().u8(128, 0), 0, 2);
        Edge.entries("0 as the second", CODES, new Bytes().u8(1, 0), 0, Edge.WELL);
    }

    /** "behind it (and its children) the UNIT ends; else 2, where it goes on". */
    private static void behindTheFirstTheUnitEnds() {
        Edge.entries("without children", CODES, new Bytes().u8(2), 0, Edge.WELL);
        Edge.entries("a 0 behind it", CODES, new Bytes().u8(2, 0), 1, 2);
        Edge.entries("a second one", CODES, new Bytes().u8(2, 2), 1, 2);
        Edge.entries("no code behind it", CODES, new Bytes().u8(2, 9), 1, 2);
        Edge.entries("half a code behind it", CODES, new Bytes().u8(2, 128), 1, 2);
        Edge.entries("with children", CODES, new Bytes().u8(1, 2, 1, 0, 0), 0, Edge.WELL);
        Edge.entries("a 0 behind its children", CODES, new Bytes().u8(1, 2, 1, 0, 0, 0), 5, 2);
        Edge.entries("an entry behind its children", CODES, new Bytes().u8(1, 2, 1, 0, 0, 2), 5, 2);
        Edge.entries("a 0 too few", CODES, new Bytes().u8(1, 2, 1, 0), 4, 1);
    }

    /** "An ENTRY with children has all that follow, up to a 0." */
    private static void allThatFollowUpToAZero() {
        // 0 ( 1 ( )  2 ( 3 4 ( 5 )  6 )  7 )
        Bytes e = new Bytes().u8(1, 1, 0, 1, 2, 1, 2, 0, 2, 0, 2, 0);
        AddressNamer x = Due.taken("a tree", Dwarf.file(CODES, e).build(), 8);
        int[] parents = {-1, 0, 0, 2, 2, 4, 2, 0};
        for (int i = 0; i < parents.length; i++) {
            Due.is("parent of " + i, x.entry(i, 1), parents[i]);
        }
    }

    private static Bytes tree(int entries) {
        return Dwarf.unit(new Bytes().u8(1).times(entries - 1, new Bytes().u8(2)).u8(0));
    }

    /** "At most 400 ENTRIES of all UNITS (else 4, at the code)." */
    private static void atMostFourHundredEntries() {
        for (int number = 399; number <= 401; number++) {
            Edge.ask(number + " entries", new ElfFile().add(".debug_abbrev", CODES).add(".debug_info", tree(number)),
                    ".debug_info", 12 + 400, number > 400 ? 4 : Edge.WELL);
            Bytes three = new Bytes().add(tree(150)).add(tree(249)).add(tree(number - 399 + 1));
            Edge.ask(number + 1 + " entries of three units", new ElfFile().add(".debug_abbrev", CODES)
                    .add(".debug_info", three), ".debug_info", three.size() - (number - 399 + 2) + 1,
                    number + 1 > 400 ? 4 : Edge.WELL);
        }
        Bytes full = new Bytes().u8(1).times(399, new Bytes().u8(2));
        Edge.entries("0 is no entry", CODES, new Bytes().add(full).u8(0), 0, Edge.WELL);
        Edge.entries("the 401st has no such code", CODES, new Bytes().add(full).u8(3, 0), 400, 3);
        Edge.entries("the 401st is cut", CODES, new Bytes().add(full).u8(130), 400, 1);
        AddressNamer x = Due.taken("400", Dwarf.file(CODES, new Bytes().add(full).u8(0)).build(), 400);
        Due.is("the last one's tag", x.entry(399, 0), 46);
        Due.is("none behind it", x.entry(400, 0), -1);
    }

    /** "At most 24 within one another (else 4, at the code)." */
    private static void atMostTwentyFourWithinOneAnother() {
        for (int deep = 23; deep <= 25; deep++) {
            Bytes parents = new Bytes().times(deep, new Bytes().u8(1)).times(deep, new Bytes().u8(0));
            Edge.entries(deep + " with children", CODES, parents, 24, deep > 24 ? 4 : Edge.WELL);
            Bytes leaf = new Bytes().times(deep - 1, new Bytes().u8(1)).u8(2).times(deep - 1, new Bytes().u8(0));
            Edge.entries(deep + ", the last without", CODES, leaf, 24, deep > 24 ? 4 : Edge.WELL);
        }
        Bytes sides = new Bytes().times(23, new Bytes().u8(1)).u8(2, 2, 1, 0, 1, 0, 2).times(23, new Bytes().u8(0));
        Edge.entries("several at the 24th level", CODES, sides, 0, Edge.WELL);
        Bytes again = new Bytes().u8(1).times(2, new Bytes().times(23, new Bytes().u8(1)).times(23, new Bytes().u8(0)))
                .u8(0);
        Edge.entries("24 levels twice", CODES, again, 0, Edge.WELL);
        Bytes unknown = new Bytes().times(24, new Bytes().u8(1)).u8(3).times(24, new Bytes().u8(0));
        Edge.entries("the 25th has no such code", CODES, unknown, 24, 3);
    }

    /** "1 an ADDRESS (8 bytes); 11, 5, 6, 7 a number of 1, 2, 4, 8 bytes; 19 (4); 23 (4); 25 nothing". */
    private static void widthOfEachForm() {
        for (int form : Forms.ALL) {
            Bytes codes = new Bytes().u8(1, 17, 1).add(Forms.pair(500, form, 1)).add(Forms.pair(3, 8, 0)).u8(0, 0)
                    .add(Dwarf.code(2, 46, 0)).u8(0);
            int value = form == 19 ? 12 : form == 14 ? 0 : 1;
            Bytes e = new Bytes().u8(1).add(Forms.value(form, value)).text("four").u8(2, 0);
            AddressNamer x = Due.taken("form " + form, Dwarf.file(codes, e).add(".debug_str", new Bytes().text(""))
                    .build(), 2);
            Due.is("the name behind form " + form, x.entry(0, 6), 4);
            Due.is("the entry behind form " + form, x.entry(1, 5), x.entry(0, 5) + e.size() - 2);
        }
        Bytes address = new Bytes().add(Dwarf.code(1, 17, 0, 500, 1)).u8(0);
        long[] addresses = {0, Long.MAX_VALUE, Long.MIN_VALUE, -1};
        for (long a : addresses) {
            Edge.entries("address " + a, address, new Bytes().u8(1).u64(a), 1, a < 0 ? 2 : Edge.WELL);
        }
    }

    /** "14 the offset (4) of a STRING in .debug_str": not in it 3, not ended in it 1, at the offset. */
    private static void stringsThatAreTold() {
        Bytes codes = new Bytes().add(Dwarf.code(1, 17, 0, 3, 14)).u8(0);
        Bytes texts = new Bytes().text("ab").text("").raw("c");
        int[][] due = {{0, 0, 2}, {1, 0, 1}, {2, 0, 0}, {3, 0, 0}, {4, 1, 0}, {5, 3, 0}, {6, 3, 0}, {-1, 3, 0}};
        for (int[] d : due) {
            ElfFile elf = Dwarf.file(codes, new Bytes().u8(1).u32(d[0])).add(".debug_str", texts);
            Edge.ask("a string at " + d[0], elf, ".debug_info", 13, d[1]);
            if (d[1] == Edge.WELL) {
                Due.is("its signs", Due.taken("a string", elf.build(), 1).entry(0, 6), d[2]);
            }
        }
    }

    /** "24 so many bytes as an ULEB tells (1 at that, if they aren't there)". */
    private static void soManyBytesAsAnUlebTells() {
        Bytes codes = new Bytes().add(Dwarf.code(1, 17, 0, 500, 24)).u8(0);
        Edge.entries("none", codes, new Bytes().u8(1, 0), 0, Edge.WELL);
        Edge.entries("one of one", codes, new Bytes().u8(1, 1, 9), 0, Edge.WELL);
        Edge.entries("two of two", codes, new Bytes().u8(1, 2, 9, 9), 0, Edge.WELL);
        Edge.entries("one of none", codes, new Bytes().u8(1, 0, 9), 2, 2);
        Edge.entries("two of one", codes, new Bytes().u8(1, 1, 9, 9), 3, 2);
        Edge.entries("none of one", codes, new Bytes().u8(1, 1), 1, 1);
        Edge.entries("one of two", codes, new Bytes().u8(1, 2, 9), 1, 1);
        Edge.entries("two of three", codes, new Bytes().u8(1).padded(3, 2).u8(9, 9), 1, 1);
        long[] huge = {1L << 31, 1L << 32, (1L << 32) + 1, Long.MAX_VALUE, Long.MIN_VALUE, -1};
        for (long n : huge) {
            Edge.entries("one of " + n, codes, new Bytes().u8(1).uleb(n).u8(9), 1, 1);
        }
    }

    /** "25 nothing (1)": an attribute by it is none of those that matter. */
    private static void presentIsOne() {
        Bytes codes = new Bytes().add(Dwarf.code(1, 29, 0, 88, 25, 89, 25, 3, 25)).u8(0);
        AddressNamer x = Due.taken("nothing", Dwarf.file(codes, new Bytes().u8(1)).build(), 1);
        Due.is("no FILE", x.entry(0, 7), -1);
        Due.is("no LINE", x.entry(0, 8), -1);
        Due.is("no name", x.entry(0, 6), -1);
    }

    /** "19 a REFERENCE (4): the place, counted from the UNIT's begin, of an ENTRY in it" (else 3, at it). */
    private static void placeOfAReference() {
        Bytes codes = new Bytes().add(Dwarf.code(1, 17, 1)).add(Dwarf.code(2, 46, 1, 49, 19)).u8(0);
        Bytes ahead = Dwarf.unit(new Bytes().u8(1, 0));
        // entries at 12, 13 and 18; enders at 23, 24 and 25; the unit ends at 26
        for (int place = 0; place <= 60; place++) {
            Bytes unit = Dwarf.unit(new Bytes().u8(1, 2).u32(12).u8(2).u32(place).u8(0, 0, 0));
            ElfFile elf = new ElfFile().add(".debug_abbrev", codes)
                    .add(".debug_info", new Bytes().add(ahead).add(unit).add(ahead));
            boolean well = place == 12 || place == 13 || place == 18;
            Edge.ask("a reference to " + place, elf, ".debug_info", ahead.size() + 19, well ? Edge.WELL : 3);
            if (well) {
                Due.is("the origin at " + place, Due.taken("a reference", elf.build(), 5).entry(3, 3),
                        place == 12 ? 1 : place == 13 ? 2 : 3);
            }
        }
        long[] far = {-ahead.size() + 12, -1, 1L << 31, (1L << 31) + 12};
        for (long place : far) {
            Bytes unit = Dwarf.unit(new Bytes().u8(1, 2).u32(12).u8(2).u32(place).u8(0, 0, 0));
            Edge.ask("a reference to " + place, new ElfFile().add(".debug_abbrev", codes)
                    .add(".debug_info", new Bytes().add(ahead).add(unit)), ".debug_info", ahead.size() + 19, 3);
        }
    }

    /** "When all ENTRIES of a UNIT are read: each REFERENCE, in order". */
    private static void referencesAreAskedWhenAllAreRead() {
        Bytes codes = new Bytes().add(Dwarf.code(1, 17, 1)).add(Dwarf.code(2, 46, 0, 500, 19, 501, 19)).u8(0);
        Bytes wrong = new Bytes().u8(2).u32(5).u32(6);
        Edge.entries("the first of several", codes, new Bytes().u8(1).add(wrong).add(wrong).u8(0), 2, 3);
        Edge.entries("the second one", codes, new Bytes().u8(1, 2).u32(12).u32(6).add(wrong).u8(0), 6, 3);
        Edge.entries("a later code is asked first", codes, new Bytes().u8(1).add(wrong).u8(9, 0), 10, 3);
        Edge.entries("a later cut is asked first", codes, new Bytes().u8(1).add(wrong), 10, 1);
        Edge.entries("the unit's end is asked first", codes, new Bytes().u8(1).add(wrong).u8(0, 0), 11, 2);
        Bytes unit = Dwarf.unit(new Bytes().u8(1).add(wrong).u8(0));
        Edge.ask("the next unit is asked behind", new ElfFile().add(".debug_abbrev", codes)
                .add(".debug_info", new Bytes().add(unit).u8(9)), ".debug_info", 14, 3);
        Edge.entries("a later entry", codes, new Bytes().u8(1, 2).u32(22).u32(22).u8(2).u32(13).u32(12).u8(0), 0,
                Edge.WELL);
    }

    private static final int[] ATTRIBUTES = {3, 16, 17, 18, 49, 71, 85, 88, 89};

    private static boolean matters(int attribute, int form) {
        switch (attribute) {
            case 3:
                return form == 8 || form == 14;
            case 17:
                return form == 1;
            case 18:
                return form == 1 || Forms.isCount(form);
            case 88:
            case 89:
                return Forms.isCount(form);
            case 49:
            case 71:
                return form == 19;
            case 16:
            case 85:
                return form == 23;
            default:
                return false;
        }
    }

    /** One entry with an attribute; beside LOW stands HIGH, beside HIGH stands LOW. */
    private static AddressNamer withAttribute(int attribute, int form) {
        int value = form == 19 ? 12 : form == 14 || form == 23 ? 0 : 7;
        Bytes codes = new Bytes().u8(1, 29, 0).add(Forms.pair(attribute, form, 7));
        Bytes e = new Bytes().u8(1).add(Forms.value(form, value));
        if (attribute == 17) {
            codes.uleb(18, 1);
            e.u64(9);
        } else if (attribute == 18) {
            codes.uleb(17, 1);
            e.u64(2);
        }
        return Due.taken(attribute + " by " + form, Dwarf.file(codes.u8(0, 0, 0), e)
                .add(".debug_str", new Bytes().text("ab")).add(".debug_rnglists", new Bytes().u8(4, 5, 6, 4, 7, 8, 0))
                .add(".debug_line", new LineTable().build()).build(), 1);
    }

    /** "Attributes that matter (with these forms; with others they don't)". */
    private static void attributesWithTheirForms() {
        for (int attribute : ATTRIBUTES) {
            for (int near = attribute - 1; near <= attribute + 1; near++) {
                for (int form : Forms.ALL) {
                    AddressNamer x = withAttribute(near, form);
                    boolean told = matters(near, form);
                    String what = near + " by " + form;
                    Due.is(what + ": name", x.entry(0, 6), near == 3 && told ? 2 : -1);
                    Due.is(what + ": ORIGIN", x.entry(0, 3), (near == 49 || near == 71) && told ? 0 : -1);
                    Due.is(what + ": FILE", x.entry(0, 7), near == 88 && told ? 7 : -1);
                    Due.is(what + ": LINE", x.entry(0, 8), near == 89 && told ? 7 : -1);
                    Due.is(what + ": LINES", x.count(7), near == 16 && told ? 2 : 0);
                    boolean range = (near == 17 || near == 18) && told;
                    Due.is(what + ": RANGES", x.entry(0, 4), range ? 1 : near == 85 && told ? 2 : 0);
                    Due.is(what + ": 7", x.holds(0, 7), range && !(near == 18 && form == 1) || near == 85 && told);
                    Due.is(what + ": 2", x.holds(0, 2), near == 18 && told);
                }
            }
        }
        Bytes wide = new Bytes().u8(1, 29, 0).uleb((1L << 32) + 3, 8, (1L << 32) + 88, 11).u8(0, 0, 0);
        AddressNamer x = Due.taken("wide ones", Dwarf.file(wide, new Bytes().u8(1).text("ab").u8(7)).build(), 1);
        Due.is("no name", x.entry(0, 6), -1);
        Due.is("no FILE", x.entry(0, 7), -1);
    }

    /** "of several alike the first one": the first of those by a form with which it matters. */
    private static void firstOfSeveralAlike() {
        Bytes codes = new Bytes().u8(1, 29, 1)
                .uleb(3, 11, 3, 14, 3, 8, 88, 13, 88, 11, 88, 5, 89, 23, 89, 15, 89, 11).u8(0, 0)
                .u8(2, 29, 0).uleb(17, 7, 17, 1, 17, 1, 18, 13, 18, 11, 18, 1).u8(0, 0)
                .u8(3, 29, 0).uleb(17, 1, 18, 1, 18, 11, 49, 6, 49, 19, 49, 19, 85, 6, 85, 23, 85, 23).u8(0, 0)
                .u8(4, 29, 0).uleb(85, 6, 85, 23, 85, 23, 71, 6, 71, 19, 71, 19).u8(0, 0, 0);
        Bytes e = new Bytes().u8(1, 9).u32(0).text("later").sleb(3).u8(4).u16(5).u32(6).uleb(7).u8(8);
        int second = 12 + e.size();
        e.u8(2).u64(1).u64(10).u64(11).sleb(1).u8(2).u64(99);
        int third = 12 + e.size();
        e.u8(3).u64(20).u64(30).u8(1).u32(12).u32(second).u32(third).u32(9).u32(9).u32(9);
        e.u8(4).u32(9).u32(0).u32(5).u32(12).u32(third).u32(second).u8(0);
        AddressNamer x = Due.taken("several alike", Dwarf.file(codes, e).add(".debug_str", new Bytes().text("abc"))
                .add(".debug_rnglists", new Bytes().u8(4, 50, 60, 0, 0, 4, 70, 80, 0)).build(), 4);
        Due.is("name", x.entry(0, 6), 3);
        Due.is("FILE", x.entry(0, 7), 4);
        Due.is("LINE", x.entry(0, 8), 7);
        Due.is("LOW", x.holds(1, 10) && !x.holds(1, 9), true);
        Due.is("HIGH by 11", x.holds(1, 11) && !x.holds(1, 12), true);
        Due.is("HIGH by 1", x.holds(2, 29) && !x.holds(2, 30), true);
        Due.is("ORIGIN by 49", x.entry(2, 3), 1);
        Due.is("RANGES", x.holds(3, 55) && !x.holds(3, 75), true);
        Due.is("ORIGIN by 71", x.entry(3, 3), 2);
        Bytes lines = new Bytes().u8(1, 17, 0).uleb(16, 6, 16, 23, 16, 23).u8(0, 0, 0);
        Due.taken("LINES", Dwarf.file(lines, new Bytes().u8(1).u32(77).u32(0).u32(77))
                .add(".debug_line", new LineTable().build()).build(), 1);
    }

    /** "49 and 71 ORIGIN (49 ahead of 71)". */
    private static void abstractAheadOfDeclared() {
        long[][] orders = {{49, 71}, {71, 49}};
        for (long[] o : orders) {
            Bytes codes = new Bytes().add(Dwarf.code(1, 17, 1)).add(Dwarf.code(2, 46, 0, o[0], 19, o[1], 19)).u8(0);
            Bytes e = new Bytes().u8(1, 2).u32(12).u32(13).u8(0);
            AddressNamer x = Due.taken("both", Dwarf.file(codes, e).build(), 2);
            Due.is("49 is the one", x.entry(1, 3), o[0] == 49 ? 0 : 1);
        }
        Bytes codes = new Bytes().add(Dwarf.code(1, 17, 1)).add(Dwarf.code(2, 46, 0, 71, 19)).u8(0);
        AddressNamer x = Due.taken("71", Dwarf.file(codes, new Bytes().u8(1, 2).u32(12).u8(0)).build(), 2);
        Due.is("71 alone", x.entry(1, 3), 0);
        Bytes six = new Bytes().add(Dwarf.code(1, 17, 1)).add(Dwarf.code(2, 46, 0, 49, 6, 71, 19)).u8(0);
        AddressNamer y = Due.taken("49 by 6", Dwarf.file(six, new Bytes().u8(1, 2).u32(13).u32(12).u8(0)).build(), 2);
        Due.is("49 by another form", y.entry(1, 3), 0);
    }

    /** "16 LINES (23; of a UNIT's first ENTRY alone)", whatever its tag is. */
    private static void linesOfTheFirstEntryAlone() {
        Bytes codes = new Bytes().add(Dwarf.code(1, 46, 1, 16, 23)).add(Dwarf.code(2, 17, 0, 16, 23))
                .add(Dwarf.code(3, 17, 1)).u8(0);
        Bytes both = new Bytes().u8(1).u32(0).u8(2).u32(99).u8(0);
        AddressNamer x = Due.taken("both", Dwarf.file(codes, both).add(".debug_line", new LineTable().build()).build(), 2);
        Due.is("the first one's files", x.count(7), 2);
        Bytes second = new Bytes().u8(3, 2).u32(0).u8(0);
        AddressNamer y = Due.taken("the second", Dwarf.file(codes, second)
                .add(".debug_line", new LineTable().build()).build(), 2);
        Due.is("the second one's don't matter", y.count(7), 0);
    }
}
