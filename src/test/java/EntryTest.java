/** Entries, their forms and attributes (part 3 of the terms; promises 5, 6, 7). */
public final class EntryTest {
    public static void main(String[] args) {
        tree();
        treeFaults();
        entryLimits();
        formsAreRead();
        formFaults();
        toldTexts();
        references();
        origins();
        longOrigins();
        manyReferences();
        calls();
        allAtOnce();
        severalAlike();
        wrongArguments();
        Due.finish("EntryTest");
    }

    /** A code without pairs: 1 with children, 2 without. */
    private static Bytes twoCodes() {
        return new Bytes().add(Dwarf.code(1, 17, 1)).add(Dwarf.code(2, 46, 0)).u8(0);
    }

    private static void tree() {
        // 0 ( 1  2 ( 3 ( ) 4 )  5 )
        ElfFile elf = Dwarf.file(twoCodes(), new Bytes().u8(1, 2, 1, 1, 0, 2, 0, 2, 0));
        AddressNamer x = Due.taken("a tree", elf.build(), 6);
        int[] parents = {-1, 0, 0, 2, 2, 0};
        int[] tags = {17, 46, 17, 17, 46, 46};
        int[] places = {0, 1, 2, 3, 5, 7};
        for (int e = 0; e < 6; e++) {
            Due.is("parent of " + e, x.entry(e, 1), parents[e]);
            Due.is("tag of " + e, x.entry(e, 0), tags[e]);
            Due.is("unit of " + e, x.entry(e, 2), 0);
            Due.is("origin of " + e, x.entry(e, 3), -1);
            Due.is("ranges of " + e, x.entry(e, 4), 0);
            Due.is("place of " + e, x.entry(e, 5), elf.placeOf(".debug_info") + 12 + places[e]);
            Due.is("name of " + e, x.entry(e, 6), -1);
        }
        Due.taken("children without any", Dwarf.file(twoCodes(), new Bytes().u8(1, 0)).build(), 1);
        Due.taken("an ender of two bytes", Dwarf.file(twoCodes(), new Bytes().u8(1, 128, 0)).build(), 1);
    }

    private static void entries(String what, Bytes abbreviations, Bytes entries, int fault, int place) {
        ElfFile elf = Dwarf.file(abbreviations, entries);
        byte[] file = elf.build();
        Due.refused(what, file, fault, elf.placeOf(".debug_info") + Dwarf.INFO_ENTRIES + place);
    }

    private static void treeFaults() {
        entries("no entry", twoCodes(), new Bytes(), 1, 0);
        entries("a first code of 0", twoCodes(), new Bytes().u8(0), 2, 0);
        entries("no such code", twoCodes(), new Bytes().u8(3), 3, 0);
        entries("no such code within", twoCodes(), new Bytes().u8(1, 2, 9, 0), 3, 2);
        entries("a second one", twoCodes(), new Bytes().u8(2, 2), 2, 1);
        entries("a second one behind children", twoCodes(), new Bytes().u8(1, 0, 2), 2, 2);
        entries("a 0 behind", twoCodes(), new Bytes().u8(1, 0, 0), 2, 2);
        entries("children not ended", twoCodes(), new Bytes().u8(1, 2), 1, 2);
        entries("a cut code", twoCodes(), new Bytes().u8(1, 130), 1, 1);
    }

    private static void entryLimits() {
        Bytes full = new Bytes().u8(1).times(399, new Bytes().u8(2));
        Due.taken("400", Dwarf.file(twoCodes(), new Bytes().add(full).u8(0)).build(), 400);
        entries("401", twoCodes(), new Bytes().add(full).u8(2, 0), 4, 400);
        entries("the lesser fault", twoCodes(), new Bytes().add(full).u8(5, 0), 3, 400);
        Bytes info = new Bytes().add(Dwarf.unit(new Bytes().u8(1).times(398, new Bytes().u8(2)).u8(0)));
        Bytes one = Dwarf.unit(new Bytes().u8(2));
        ElfFile both = new ElfFile().add(".debug_abbrev", twoCodes())
                .add(".debug_info", new Bytes().add(info).add(one));
        Due.taken("400 in two units", both.build(), 400);
        ElfFile over = new ElfFile().add(".debug_abbrev", twoCodes())
                .add(".debug_info", new Bytes().add(info).add(one).add(one));
        byte[] file = over.build();
        Due.refused("401 in three units", file, 4,
                over.placeOf(".debug_info") + info.size() + one.size() + 12);
        Bytes deep = new Bytes().times(24, new Bytes().u8(1));
        Bytes enders = new Bytes().times(24, new Bytes().u8(0));
        AddressNamer x = Due.taken("24 deep", Dwarf.file(twoCodes(), new Bytes().add(deep).add(enders)).build(), 24);
        Due.is("the deepest one's parent", x.entry(23, 1), 22);
        entries("25 deep", twoCodes(), new Bytes().add(deep).u8(2).add(enders), 4, 24);
        entries("25 deep, no such code", twoCodes(), new Bytes().add(deep).u8(7).add(enders), 3, 24);
    }

    /** Each form takes its bytes and no more: behind it stands a name that shows. */
    private static void formsAreRead() {
        Object[][] forms = {
            {1, new Bytes().u64(Long.MAX_VALUE)}, {5, new Bytes().u16(65535)}, {6, new Bytes().u32(-1)},
            {7, new Bytes().u64(-1)}, {8, new Bytes().text("xyz")}, {11, new Bytes().u8(255)},
            {13, new Bytes().u8(255, 127)}, {14, new Bytes().u32(0)}, {15, new Bytes().u8(128, 128, 1)},
            {19, new Bytes().u32(12)}, {23, new Bytes().u32(-1)}, {24, new Bytes().u8(3, 0, 0, 0)},
            {24, new Bytes().u8(0)}, {25, new Bytes()}};
        for (Object[] f : forms) {
            int form = (Integer) f[0];
            Bytes b = new Bytes().add(Dwarf.code(1, 46, 0, 500, form, 3, 8)).u8(0);
            ElfFile elf = Dwarf.file(b, new Bytes().u8(1).add((Bytes) f[1]).text("name"))
                    .add(".debug_str", new Bytes().text(""));
            Due.is("behind form " + form, Due.taken("form " + form, elf.build(), 1).entry(0, 6), 4);
        }
        Bytes b = new Bytes().u8(1, 46, 0).uleb(500, 33).sleb(-3).uleb(3, 8).u8(0, 0, 0);
        ElfFile elf = Dwarf.file(b, new Bytes().u8(1).text("name"));
        Due.is("behind form 33", Due.taken("form 33", elf.build(), 1).entry(0, 6), 4);
    }

    private static void form(int form, Bytes value, int fault) {
        Bytes b = new Bytes().add(Dwarf.code(1, 46, 0, 500, form)).u8(0);
        entries("form " + form, b, new Bytes().u8(1).add(value), fault, 1);
    }

    private static void formFaults() {
        form(1, new Bytes().u64(-1), 2);
        form(1, new Bytes().u64(Long.MIN_VALUE), 2);
        form(1, new Bytes().u32(1).u16(1).u8(1), 1);
        form(5, new Bytes().u8(1), 1);
        form(6, new Bytes().u16(1).u8(1), 1);
        form(7, new Bytes().u32(1).u16(1).u8(1), 1);
        form(8, new Bytes().raw("abc"), 1);
        form(11, new Bytes(), 1);
        form(13, new Bytes().u8(128), 1);
        form(14, new Bytes().u16(0), 1);
        form(14, new Bytes().u32(0), 3);
        form(15, new Bytes().u8(128), 1);
        form(15, new Bytes().times(10, new Bytes().u8(128)).u8(0), 1);
        form(13, new Bytes().times(10, new Bytes().u8(128)).u8(0), 1);
        form(19, new Bytes().u8(1, 0, 0), 1);
        form(23, new Bytes().u8(1, 0, 0), 1);
        form(24, new Bytes(), 1);
        form(24, new Bytes().u8(2, 0), 1);
        form(24, new Bytes().uleb(-1).u8(0), 1);
        form(24, new Bytes().uleb(4294967296L), 1);
    }

    private static void toldTexts() {
        Bytes b = new Bytes().add(Dwarf.code(1, 46, 0, 3, 14)).u8(0);
        Bytes texts = new Bytes().text("ab").raw("cd");
        for (int offset = 0; offset <= 6; offset++) {
            ElfFile elf = Dwarf.file(b, new Bytes().u8(1).u32(offset)).add(".debug_str", texts);
            byte[] file = elf.build();
            int place = elf.placeOf(".debug_info") + 13;
            if (offset < 3) {
                Due.is("told at " + offset, Due.taken("told", file, 1).entry(0, 6), 2 - offset);
            } else {
                Due.refused("told at " + offset, file, offset < 5 ? 1 : 3, place);
            }
        }
        ElfFile far = Dwarf.file(b, new Bytes().u8(1).u32(-1)).add(".debug_str", texts);
        byte[] file = far.build();
        Due.refused("told far away", file, 3, far.placeOf(".debug_info") + 13);
    }

    private static void references() {
        // entry 0 at 12, of 1 byte; then two of 5 bytes each, at 13 and 18; then 0 at 23
        Bytes b = new Bytes().add(Dwarf.code(1, 17, 1)).add(Dwarf.code(2, 46, 0, 500, 19)).u8(0);
        for (int target = 0; target < 30; target++) {
            Bytes entries = new Bytes().u8(1, 2).u32(12).u8(2).u32(target).u8(0);
            ElfFile elf = Dwarf.file(b, entries);
            byte[] file = elf.build();
            if (target == 12 || target == 13 || target == 18) {
                AddressNamer x = Due.taken("a reference to " + target, file, 3);
                Due.is("an attribute that doesn't matter", x.entry(2, 3), -1);
            } else {
                Due.refused("a reference to " + target, file, 3, elf.placeOf(".debug_info") + 19);
            }
        }
        entries("the first of two", b, new Bytes().u8(1, 2).u32(99).u8(2).u32(98).u8(0), 3, 2);
        entries("a huge one", b, new Bytes().u8(1, 2).u32(12).u8(2).u32(-1).u8(0), 3, 7);
        entries("asked behind all entries", b, new Bytes().u8(1, 2).u32(99).u8(9, 0), 3, 6);
        entries("asked behind the unit's end", b, new Bytes().u8(1, 2).u32(99).u8(0, 0), 2, 7);
        Bytes one = Dwarf.unit(new Bytes().u8(1, 2).u32(12).u8(0));
        Bytes other = Dwarf.unit(new Bytes().u8(1, 2).u32(12).u8(2).u32(13 + one.size()).u8(0));
        ElfFile into = new ElfFile().add(".debug_abbrev", b).add(".debug_info", new Bytes().add(other).add(one));
        byte[] file = into.build();
        Due.refused("into another unit", file, 3, into.placeOf(".debug_info") + 19);
    }

    private static void origins() {
        // codes: 1 the unit's, 2 with a name, 3 abstract, 4 declared, 5 declared and abstract
        Bytes b = new Bytes().add(Dwarf.code(1, 17, 1)).add(Dwarf.code(2, 46, 0, 3, 8))
                .add(Dwarf.code(3, 46, 0, 49, 19)).add(Dwarf.code(4, 46, 0, 71, 19))
                .add(Dwarf.code(5, 46, 0, 71, 19, 49, 19)).add(Dwarf.code(6, 46, 0, 71, 19, 3, 8))
                .add(Dwarf.code(7, 46, 0, 49, 6)).u8(0);
        Bytes e = new Bytes().u8(1);                         // 0 at 12
        e.u8(2).text("long").u8(2).text("ab");               // 1 at 13, 2 at 19
        e.u8(3).u32(13).u8(4).u32(19);                       // 3 at 23, 4 at 28
        e.u8(5).u32(19).u32(13);                             // 5 at 33
        e.u8(6).u32(13).text("own");                         // 6 at 42
        e.u8(3).u32(56);                                     // 7 at 51
        e.u8(3).u32(23);                                     // 8 at 56
        e.u8(3).u32(61);                                     // 9 at 61: its own origin
        e.u8(7).u32(13).u8(3).u32(12).u8(0);                 // 10 at 66, 11 at 71
        AddressNamer x = Due.taken("origins", Dwarf.file(b, e).build(), 12);
        int[] origin = {-1, -1, -1, 1, 2, 1, 1, 8, 3, 9, -1, 0};
        int[] length = {-1, 4, 2, 4, 2, 4, 3, 4, 4, -1, -1, -1};
        for (int i = 0; i < 12; i++) {
            Due.is("origin of " + i, x.entry(i, 3), origin[i]);
            Due.is("name of " + i, x.entry(i, 6), length[i]);
        }
    }

    private static void longOrigins() {
        // ten in a row, each the origin of the one ahead; the last one has the name
        Bytes b = new Bytes().add(Dwarf.code(1, 17, 1)).add(Dwarf.code(2, 46, 0, 49, 19))
                .add(Dwarf.code(3, 46, 0, 3, 8)).u8(0);
        Bytes e = new Bytes().u8(1);
        for (int i = 0; i < 9; i++) {
            e.u8(2).u32(13 + 5 * (i + 1));
        }
        e.u8(3).text("n").u8(0);
        AddressNamer x = Due.taken("long origins", Dwarf.file(b, e).build(), 11);
        Due.is("nine origins away", x.entry(1, 6), -1);
        Due.is("eight origins away", x.entry(2, 6), 1);
        Due.is("one origin away", x.entry(9, 6), 1);
        Due.is("its own", x.entry(10, 6), 1);
    }

    /** 1760 of them: all are looked at, up to the last one. */
    private static void manyReferences() {
        Bytes b = new Bytes().u8(1, 17, 1, 0, 0, 2, 46, 0).times(16, new Bytes().u8(50, 19)).u8(0, 0, 0);
        Bytes e = new Bytes().u8(1).times(110, new Bytes().u8(2).times(16, new Bytes().u32(12))).u8(0);
        ElfFile elf = Dwarf.file(b, e);
        byte[] file = elf.build();
        Due.taken("many references", file, 111);
        int last = elf.placeOf(".debug_info") + 12 + e.size() - 5;
        Due.refused("the last of many", Dwarf.with(file, last, 11), 3, last);
    }

    /** An entry with all that matters: nothing of it takes the place of another. */
    private static void allAtOnce() {
        long[] pairs = {88, 11, 89, 11, 71, 19, 3, 8, 17, 1, 18, 11, 85, 23, 16, 23};
        Bytes b = new Bytes().add(Dwarf.code(1, 17, 1)).add(Dwarf.code(2, 29, 0, pairs)).u8(0);
        Bytes e = new Bytes().u8(1, 2, 7, 8).u32(12).text("name").u64(500).u8(9).u32(1).u32(2).u8(0);
        AddressNamer x = Due.taken("all at once", Dwarf.file(b, e).build(), 2);
        int[] due = {29, 0, 0, 0, 1, x.entry(0, 5) + 1, 4, 7, 8};
        for (int what = 0; what < 9; what++) {
            Due.is("entry(1, " + what + ")", x.entry(1, what), due[what]);
        }
        Due.is("from LOW on", x.holds(1, 500), true);
        Due.is("below HIGH", x.holds(1, 508), true);
        Due.is("not at HIGH", x.holds(1, 509), false);
    }

    private static void calls() {
        Object[][] values = {
            {11, new Bytes().u8(200), 200}, {5, new Bytes().u16(40000), 40000},
            {6, new Bytes().u32(-2), -2}, {7, new Bytes().u64(0x1_0000_0007L), 7},
            {15, new Bytes().uleb(300), 300}, {15, new Bytes().uleb(-1), -1}, {13, new Bytes().sleb(5), -1},
            {23, new Bytes().u32(5), -1}, {1, new Bytes().u64(5), -1}, {25, new Bytes(), -1}};
        for (Object[] v : values) {
            int form = (Integer) v[0];
            for (int attribute = 88; attribute <= 89; attribute++) {
                Bytes b = new Bytes().add(Dwarf.code(1, 29, 0, attribute, form)).u8(0);
                AddressNamer x = Due.taken("call", Dwarf.file(b, new Bytes().u8(1).add((Bytes) v[1])).build(), 1);
                Due.is("file by form " + form, x.entry(0, 7), attribute == 88 ? (Integer) v[2] : -1);
                Due.is("line by form " + form, x.entry(0, 8), attribute == 89 ? (Integer) v[2] : -1);
            }
        }
        Bytes b = new Bytes().u8(1, 29, 0).uleb(88, 33).sleb(-70).uleb(89, 33).sleb(70).u8(0, 0, 0);
        AddressNamer x = Due.taken("call by code", Dwarf.file(b, new Bytes().u8(1)).build(), 1);
        Due.is("file by form 33", x.entry(0, 7), -70);
        Due.is("line by form 33", x.entry(0, 8), 70);
        Bytes wide = new Bytes().u8(1, 29, 0).uleb(88, 33).times(9, new Bytes().u8(255)).u8(0)
                .uleb(89, 33).times(9, new Bytes().u8(128)).u8(127).u8(0, 0, 0);
        AddressNamer y = Due.taken("wide values", Dwarf.file(wide, new Bytes().u8(1)).build(), 1);
        Due.is("63 bits of 1", y.entry(0, 7), -1);
        Due.is("the 64th alone", y.entry(0, 8), 0);
    }

    private static void severalAlike() {
        Bytes b = new Bytes().add(Dwarf.code(1, 29, 0, 3, 11, 3, 8, 3, 14, 88, 13, 88, 11, 88, 5)).u8(0);
        Bytes e = new Bytes().u8(1, 7).text("first").u32(0).sleb(9).u8(3).u16(500);
        AddressNamer x = Due.taken("alike",
                Dwarf.file(b, e).add(".debug_str", new Bytes().text("second!")).build(), 1);
        Due.is("the first name", x.entry(0, 6), 5);
        Due.is("the first file", x.entry(0, 7), 3);
        Bytes empty = new Bytes().add(Dwarf.code(1, 29, 0, 3, 8, 3, 8)).u8(0);
        AddressNamer y = Due.taken("empty", Dwarf.file(empty, new Bytes().u8(1).text("").text("x")).build(), 1);
        Due.is("an empty name is one", y.entry(0, 6), 0);
    }

    private static void wrongArguments() {
        AddressNamer x = Due.taken("one", Dwarf.file(twoCodes(), new Bytes().u8(2)).build(), 1);
        for (int what = -1; what <= 9; what++) {
            Due.is("entry(1, ..)", x.entry(1, what), -1);
            Due.is("entry(-1, ..)", x.entry(-1, what), -1);
            Due.is("entry(greatest, ..)", x.entry(Integer.MAX_VALUE, what), -1);
            Due.is("entry(least, ..)", x.entry(Integer.MIN_VALUE, what), -1);
        }
        Due.is("entry(0, 9)", x.entry(0, 9), -1);
        Due.is("entry(0, -1)", x.entry(0, -1), -1);
    }
}
