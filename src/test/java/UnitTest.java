/** Units and abbreviations of part 3 of the terms, with their faults and limits (promises 5, 6, 16). */
public final class UnitTest {
    private static final Bytes PLAIN = new Bytes().add(Dwarf.code(1, 17, 0)).u8(0);

    public static void main(String[] args) {
        unitHead();
        severalUnits();
        unitLimit();
        abbreviationRows();
        abbreviationNumbers();
        pairs();
        abbreviationLimits();
        Due.finish("UnitTest");
    }

    private static void unitHead() {
        ElfFile elf = Dwarf.file(PLAIN, new Bytes().u8(1));
        byte[] file = elf.build();
        int at = elf.placeOf(".debug_info");
        AddressNamer x = Due.taken("one unit", file, 1);
        Due.is("count(3)", x.count(3), 1);
        Due.is("count(4)", x.count(4), 1);
        Due.is("entry 0's place", x.entry(0, 5), at + 12);
        Due.refused("length 4294967280", Dwarf.with(file, at, 240, 255, 255, 255), 2, at);
        Due.refused("length 4294967295", Dwarf.with(file, at, 255, 255, 255, 255), 2, at);
        Due.refused("length 4294967279", Dwarf.with(file, at, 239, 255, 255, 255), 1, at);
        Due.refused("a byte too long", Dwarf.with(file, at, 10), 1, at);
        Due.refused("a byte too short", Dwarf.with(file, at, 8), 1, at + 12);
        Due.refused("no version", Dwarf.with(file, at, 0), 1, at + 4);
        Due.refused("half a version", Dwarf.with(file, at, 1), 1, at + 4);
        Due.refused("no kind", Dwarf.with(file, at, 2), 1, at + 6);
        Due.refused("no size of addresses", Dwarf.with(file, at, 3), 1, at + 7);
        Due.refused("no offset", Dwarf.with(file, at, 7), 1, at + 8);
        Due.refused("version 4", Dwarf.with(file, at + 4, 4), 2, at + 4);
        Due.refused("version 6", Dwarf.with(file, at + 4, 6), 2, at + 4);
        Due.refused("kind 0", Dwarf.with(file, at + 6, 0), 2, at + 6);
        Due.refused("addresses of 9", Dwarf.with(file, at + 7, 9), 2, at + 7);
        Due.refused("version 261", Dwarf.with(file, at + 5, 1), 2, at + 4);
        Due.refused("kind 2", Dwarf.with(file, at + 6, 2), 2, at + 6);
        Due.refused("addresses of 4", Dwarf.with(file, at + 7, 4), 2, at + 7);
        Due.refused("no such offset", Dwarf.with(file, at + 8, PLAIN.size()), 3, at + 8);
        Due.refused("offset far away", Dwarf.with(file, at + 11, 255), 3, at + 8);
        Due.refused("version ahead of kind", Dwarf.with(file, at + 4, 4, 0, 2), 2, at + 4);
        ElfFile none = new ElfFile().add(".debug_info", Dwarf.unit(new Bytes().u8(1)));
        byte[] without = none.build();
        Due.refused("no .debug_abbrev", without, 3, none.placeOf(".debug_info") + 8);
        for (int left = 1; left <= 3; left++) {
            ElfFile cut = new ElfFile().add(".debug_info", new Bytes().times(left, new Bytes().u8(0)));
            byte[] b = cut.build();
            Due.refused(left + " bytes of a length", b, 1, cut.placeOf(".debug_info"));
        }
    }

    private static void severalUnits() {
        Bytes abbreviations = new Bytes().add(PLAIN).add(Dwarf.code(1, 46, 1)).u8(0);
        Bytes second = Dwarf.unit(PLAIN.size(), new Bytes().u8(1, 1, 0, 0));
        Bytes info = new Bytes().add(Dwarf.unit(new Bytes().u8(1))).add(second);
        ElfFile elf = new ElfFile().add(".debug_abbrev", abbreviations).add(".debug_info", info);
        byte[] file = elf.build();
        int at = elf.placeOf(".debug_info");
        AddressNamer x = Due.taken("two units", file, 3);
        Due.is("count(3)", x.count(3), 2);
        int[][] due = {{17, -1, 0, at + 12}, {46, -1, 1, at + 13 + 12}, {46, 1, 1, at + 13 + 13}};
        for (int e = 0; e < 3; e++) {
            Due.is("tag", x.entry(e, 0), due[e][0]);
            Due.is("parent", x.entry(e, 1), due[e][1]);
            Due.is("unit", x.entry(e, 2), due[e][2]);
            Due.is("place", x.entry(e, 5), due[e][3]);
        }
        Due.refused("a rest behind the second", new ElfFile().add(".debug_abbrev", abbreviations)
                .add(".debug_info", new Bytes().add(info).u8(0)).build(), 1, at + info.size());
    }

    private static void unitLimit() {
        Bytes one = Dwarf.unit(new Bytes().u8(1));
        ElfFile most = new ElfFile().add(".debug_abbrev", PLAIN).add(".debug_info", new Bytes().times(20, one));
        Due.is("20 units", Due.taken("20 units", most.build(), 20).count(3), 20);
        ElfFile over = new ElfFile().add(".debug_abbrev", PLAIN).add(".debug_info", new Bytes().times(21, one));
        byte[] file = over.build();
        int at = over.placeOf(".debug_info") + 20 * one.size();
        Due.refused("21 units", file, 4, at);
        Due.refused("its version is asked behind", Dwarf.with(file, at + 4, 4), 4, at);
        Due.refused("its length is the lesser fault", Dwarf.with(file, at, 99), 1, at);
        Due.refused("a forbidden length, too", Dwarf.with(file, at, 255, 255, 255, 255), 2, at);
        Due.refused("an earlier fault", Dwarf.with(file, at - 1, 2), 3, at - 1);
    }

    private static void abbreviation(String what, Bytes abbreviations, int fault, int place) {
        ElfFile elf = Dwarf.file(abbreviations, new Bytes().u8(1));
        byte[] file = elf.build();
        if (fault == 0) {
            Due.taken(what, file, 1);
        } else {
            Due.refused(what, file, fault, elf.placeOf(".debug_abbrev") + place);
        }
    }

    private static void abbreviationRows() {
        abbreviation("not ended", Dwarf.code(1, 17, 0), 1, 5);
        abbreviation("no tag", new Bytes().u8(1), 1, 1);
        abbreviation("a cut tag", new Bytes().u8(1, 128), 1, 1);
        abbreviation("no children", new Bytes().u8(1, 17), 1, 2);
        abbreviation("children 2", new Bytes().u8(1, 17, 2, 0, 0, 0), 2, 2);
        abbreviation("children 255", new Bytes().u8(1, 17, 255, 0, 0, 0), 2, 2);
        abbreviation("no attribute", new Bytes().u8(1, 17, 0), 1, 3);
        abbreviation("no form", new Bytes().u8(1, 17, 0, 3), 1, 4);
        abbreviation("a cut form", new Bytes().u8(1, 17, 0, 0, 128), 1, 4);
        Bytes twice = new Bytes().add(Dwarf.code(1, 17, 0)).add(Dwarf.code(2, 46, 0));
        abbreviation("a code again", new Bytes().add(twice).add(Dwarf.code(1, 11, 0)).u8(0), 2, 10);
        abbreviation("a code again in more bytes",
                new Bytes().add(twice).u8(129, 0, 11, 0, 0, 0, 0), 2, 10);
        abbreviation("its tag isn't asked", new Bytes().add(twice).u8(2), 2, 10);
        abbreviation("all well", new Bytes().add(twice).u8(0), 0, 0);
    }

    private static void abbreviationNumbers() {
        Bytes nine = new Bytes().times(9, new Bytes().u8(128));
        abbreviation("an ender of ten bytes",
                new Bytes().add(Dwarf.code(1, 17, 0)).add(nine).u8(0), 0, 0);
        abbreviation("bits above the 64th are lost",
                new Bytes().add(Dwarf.code(1, 17, 0)).add(nine).u8(126), 0, 0);
        abbreviation("a number of eleven bytes",
                new Bytes().add(Dwarf.code(1, 17, 0)).add(nine).u8(128, 0), 1, 5);
        abbreviation("the 64th isn't lost",
                new Bytes().add(Dwarf.code(1, 17, 0)).add(nine).u8(1, 17, 0, 0, 0, 0), 0, 0);
        Bytes wide = new Bytes().add(Dwarf.code(4294967297L, 4294967313L, 0)).u8(0);
        ElfFile elf = Dwarf.file(wide, new Bytes().uleb(4294967297L));
        Due.is("a tag's lower 32 bits", Due.taken("a wide code", elf.build(), 1).entry(0, 0), 17);
        ElfFile other = Dwarf.file(wide, new Bytes().u8(1));
        byte[] file = other.build();
        Due.refused("codes have 64 bits", file, 3, other.placeOf(".debug_info") + 12);
    }

    private static void pairs() {
        int[] forms = {1, 5, 6, 7, 8, 11, 13, 14, 15, 19, 23, 24, 25};
        boolean[] known = new boolean[300];
        for (int f : forms) {
            known[f] = true;
        }
        for (int form = 1; form < 300; form++) {
            if (form == 33) {
                continue;
            }
            Bytes b = new Bytes().add(Dwarf.code(1, 17, 0)).add(Dwarf.code(2, 17, 0, 3, form)).u8(0);
            abbreviation("form " + form, b, known[form] ? 0 : 2, 8);
        }
        Bytes first = Dwarf.code(1, 17, 0);
        abbreviation("a huge form", new Bytes().add(first).add(Dwarf.code(2, 17, 0, 3, 4294967297L)), 2, 8);
        abbreviation("a form below 0", new Bytes().add(first).add(Dwarf.code(2, 17, 0, 3, -1)), 2, 8);
        abbreviation("attribute 0", new Bytes().add(first).u8(2, 17, 0, 0, 8, 0, 0, 0), 2, 8);
        abbreviation("attribute 0, form 33", new Bytes().add(first).u8(2, 17, 0, 0, 33), 2, 8);
        abbreviation("form 0", new Bytes().add(first).u8(2, 17, 0, 3, 8, 3, 0, 0, 0, 0), 2, 10);
        abbreviation("a value", new Bytes().add(first).u8(2, 17, 0, 3, 33, 255, 127, 0, 0, 0), 0, 0);
        abbreviation("no value", new Bytes().add(first).u8(2, 17, 0, 3, 33), 1, 10);
        abbreviation("a cut value", new Bytes().add(first).u8(2, 17, 0, 3, 33, 128), 1, 10);
    }

    private static void abbreviationLimits() {
        Bytes forty = new Bytes();
        for (int i = 1; i <= 40; i++) {
            forty.add(Dwarf.code(i, 17, 0));
        }
        abbreviation("40 codes", new Bytes().add(forty).u8(0), 0, 0);
        abbreviation("41 codes", new Bytes().add(forty).add(Dwarf.code(41, 17, 0)).u8(0), 4, 200);
        abbreviation("41 codes, no more bytes", new Bytes().add(forty).u8(41), 4, 200);
        abbreviation("the lesser fault at a code", new Bytes().add(forty).u8(7), 2, 200);
        abbreviation("a cut code", new Bytes().add(forty).u8(200), 1, 200);
        Bytes sixteen = new Bytes().u8(1, 17, 0).times(16, new Bytes().u8(50, 25));
        abbreviation("16 pairs", new Bytes().add(sixteen).u8(0, 0, 0), 0, 0);
        abbreviation("17 pairs", new Bytes().add(sixteen).u8(50, 25, 0, 0, 0), 4, 35);
        abbreviation("17 pairs, the last with a value", new Bytes().add(sixteen).u8(50, 33), 4, 35);
        abbreviation("the lesser fault at a pair", new Bytes().add(sixteen).u8(50, 2), 2, 35);
        abbreviation("a cut pair", new Bytes().add(sixteen).u8(50), 1, 36);
        Bytes own = new Bytes().u8(1, 17, 0).times(16, new Bytes().u8(50, 25)).u8(0, 0);
        Bytes next = new Bytes().u8(2, 17, 0).times(16, new Bytes().u8(50, 25)).u8(0, 0);
        abbreviation("16 pairs of each", new Bytes().add(own).add(next).u8(0), 0, 0);
    }
}
