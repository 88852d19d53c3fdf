/** Ranges (part 4 of the terms; promises 5, 6, 7, 8, 16). */
public final class RangeTest {
    public static void main(String[] args) {
        lowAndHigh();
        lowAndHighFaults();
        lists();
        bases();
        listFaults();
        limits();
        order();
        Due.finish("RangeTest");
    }

    private static AddressNamer one(String what, Bytes code, Bytes values, Bytes lists) {
        return Due.taken(what, Dwarf.file(new Bytes().add(code).u8(0), new Bytes().u8(1).add(values))
                .add(".debug_rnglists", lists).build(), 1);
    }

    private static void heldFrom(AddressNamer x, int e, long low, long high) {
        Due.is("below " + low, x.holds(e, low - 1), false);
        Due.is("at " + low, x.holds(e, low), true);
        Due.is("last of " + high, x.holds(e, high - 1), true);
        Due.is("at " + high, x.holds(e, high), false);
    }

    private static void lowAndHigh() {
        Bytes none = new Bytes();
        AddressNamer x = one("two addresses", Dwarf.code(1, 46, 0, 17, 1, 18, 1), new Bytes().u64(5).u64(9), none);
        heldFrom(x, 0, 5, 9);
        Due.is("entry(0, 4)", x.entry(0, 4), 1);
        Due.is("count(5)", x.count(5), 1);
        Due.is("holds(1, 5)", x.holds(1, 5), false);
        Due.is("holds(-1, 5)", x.holds(-1, 5), false);
        Due.is("holds(0, -1)", x.holds(0, -1), false);
        heldFrom(one("HIGH ahead", Dwarf.code(1, 99, 0, 18, 11, 17, 1), new Bytes().u8(4).u64(5), none), 0, 5, 9);
        Object[][] more = {{11, new Bytes().u8(200), 200}, {5, new Bytes().u16(40000), 40000},
            {6, new Bytes().u32(-2), -2 & 0xffffffffL}, {7, new Bytes().u64(1L << 40), 1L << 40},
            {15, new Bytes().uleb(300), 300}};
        for (Object[] m : more) {
            int form = (Integer) m[0];
            long size = ((Number) m[2]).longValue();
            heldFrom(one("HIGH by form " + form, Dwarf.code(1, 46, 0, 17, 1, 18, form),
                    new Bytes().u64(100).add((Bytes) m[1]), none), 0, 100, 100 + size);
        }
        Bytes byCode = new Bytes().u8(1, 46, 0, 17, 1, 18, 33).sleb(70).u8(0, 0);
        heldFrom(one("HIGH by the code", byCode, new Bytes().u64(100), none), 0, 100, 170);
        x = one("empty", Dwarf.code(1, 46, 0, 17, 1, 18, 1), new Bytes().u64(5).u64(5), none);
        Due.is("an empty one counts", x.entry(0, 4), 1);
        Due.is("an empty one holds nothing", x.holds(0, 5), false);
        x = one("LOW alone", Dwarf.code(1, 46, 0, 17, 1), new Bytes().u64(5), none);
        Due.is("LOW alone is none", x.entry(0, 4), 0);
        x = one("HIGH alone", Dwarf.code(1, 46, 0, 18, 1), new Bytes().u64(5), none);
        Due.is("HIGH alone is none", x.entry(0, 4), 0);
        x = one("HIGH by form 13", Dwarf.code(1, 46, 0, 17, 1, 18, 13), new Bytes().u64(5).u8(9), none);
        Due.is("HIGH by form 13 doesn't matter", x.entry(0, 4), 0);
        x = one("LOW by form 7", Dwarf.code(1, 46, 0, 17, 7, 18, 1), new Bytes().u64(5).u64(9), none);
        Due.is("LOW by form 7 doesn't matter", x.entry(0, 4), 0);
        heldFrom(one("alike", Dwarf.code(1, 46, 0, 17, 1, 17, 1, 18, 11, 18, 1),
                new Bytes().u64(5).u64(6).u8(4).u64(77), none), 0, 5, 9);
        heldFrom(one("alike", Dwarf.code(1, 46, 0, 17, 1, 18, 1, 18, 11),
                new Bytes().u64(5).u64(9).u8(77), none), 0, 5, 9);
        heldFrom(one("up to the greatest", Dwarf.code(1, 46, 0, 17, 1, 18, 1),
                new Bytes().u64(0).u64(Long.MAX_VALUE), none), 0, 0, Long.MAX_VALUE);
    }

    private static void refused(String what, Bytes code, Bytes values, int fault) {
        ElfFile elf = Dwarf.file(new Bytes().add(code).u8(0), new Bytes().u8(1).add(values));
        byte[] file = elf.build();
        Due.refused(what, file, fault, elf.placeOf(".debug_info") + 12);
    }

    private static void lowAndHighFaults() {
        Bytes both = Dwarf.code(1, 46, 0, 17, 1, 18, 1);
        refused("HIGH below LOW", both, new Bytes().u64(9).u64(8), 2);
        Bytes more = Dwarf.code(1, 46, 0, 17, 1, 18, 7);
        refused("HIGH no address", more, new Bytes().u64(9).u64(Long.MAX_VALUE), 2);
        refused("HIGH by one too much", more, new Bytes().u64(9).u64(Long.MAX_VALUE - 8), 2);
        refused("HIGH a huge one", more, new Bytes().u64(9).u64(-1), 2);
        refused("HIGH below by the code", new Bytes().u8(1, 46, 0, 17, 1, 18, 33).sleb(-1).u8(0, 0),
                new Bytes().u64(9), 2);
        refused("no .debug_rnglists", Dwarf.code(1, 46, 0, 85, 23), new Bytes().u32(0), 3);
    }

    private static void lists() {
        Bytes list = new Bytes().u8(0).u8(4).uleb(10, 20).u8(6).u64(30).u64(40).u8(7).u64(50).uleb(200)
                .u8(4).uleb(7, 7).u8(0).u8(4).uleb(1000, 2000).u8(0);
        AddressNamer x = one("a list", Dwarf.code(1, 46, 0, 85, 23), new Bytes().u32(1), list);
        Due.is("its ranges", x.entry(0, 4), 4);
        Due.is("count(5)", x.count(5), 4);
        heldFrom(x, 0, 10, 20);
        heldFrom(x, 0, 30, 40);
        heldFrom(x, 0, 50, 250);
        Due.is("empty", x.holds(0, 7), false);
        Due.is("behind the end", x.holds(0, 1500), false);
        x = one("an empty list", Dwarf.code(1, 46, 0, 85, 23), new Bytes().u32(0), list);
        Due.is("no ranges", x.entry(0, 4), 0);
        x = one("LOW and HIGH first", Dwarf.code(1, 46, 0, 85, 23, 17, 1, 18, 1),
                new Bytes().u32(99).u64(1).u64(2), list);
        heldFrom(x, 0, 1, 2);
        x = one("RANGES by form 6", Dwarf.code(1, 46, 0, 85, 6), new Bytes().u32(99), list);
        Due.is("no RANGES", x.entry(0, 4), 0);
    }

    private static void bases() {
        Bytes list = new Bytes().u8(4).uleb(10, 20).u8(5).u64(5000).u8(4).uleb(1, 2).u8(5).u64(0)
                .u8(4).uleb(3, 4).u8(7).u64(60).uleb(1).u8(0);
        AddressNamer x = one("LOW alone is BASE", Dwarf.code(1, 46, 0, 17, 1, 85, 23),
                new Bytes().u64(100).u32(0), list);
        heldFrom(x, 0, 110, 120);
        heldFrom(x, 0, 5001, 5002);
        heldFrom(x, 0, 3, 4);
        heldFrom(x, 0, 60, 61);
        Bytes b = new Bytes().add(Dwarf.code(1, 17, 1, 17, 1)).add(Dwarf.code(2, 46, 0, 85, 23))
                .add(Dwarf.code(3, 46, 0, 17, 1, 85, 23)).add(Dwarf.code(4, 17, 1)).u8(0);
        Bytes first = Dwarf.unit(new Bytes().u8(1).u64(1000).u8(2).u32(0).u8(3).u64(77).u32(0).u8(2).u32(0).u8(0));
        Bytes second = Dwarf.unit(new Bytes().u8(4).u8(2).u32(0).u8(0));
        AddressNamer y = Due.taken("two units", new ElfFile().add(".debug_abbrev", b)
                .add(".debug_info", new Bytes().add(first).add(second))
                .add(".debug_rnglists", list).build(), 6);
        for (int e = 1; e <= 3; e++) {
            heldFrom(y, e, 1010, 1020);
            heldFrom(y, e, 5001, 5002);
            Due.is("not BASE of the list ahead", y.holds(e, 10), false);
        }
        heldFrom(y, 5, 10, 20);
        Due.is("count(5)", y.count(5), 16);
    }

    private static void list(String what, Bytes rows, int fault, int place) {
        ElfFile elf = Dwarf.file(new Bytes().add(Dwarf.code(1, 46, 0, 17, 1, 85, 23)).u8(0),
                new Bytes().u8(1).u64(100).u32(1)).add(".debug_rnglists", new Bytes().u8(0).add(rows));
        byte[] file = elf.build();
        Due.refused(what, file, fault, elf.placeOf(".debug_rnglists") + 1 + place);
    }

    private static void listFaults() {
        ElfFile elf = Dwarf.file(new Bytes().add(Dwarf.code(1, 46, 0, 85, 23)).u8(0), new Bytes().u8(1).u32(1))
                .add(".debug_rnglists", new Bytes().u8(0));
        byte[] file = elf.build();
        Due.refused("an offset not in it", file, 3, elf.placeOf(".debug_info") + 12);
        Due.refused("an offset far away", Dwarf.with(file, elf.placeOf(".debug_info") + 16, 255), 3,
                elf.placeOf(".debug_info") + 12);
        for (int kind = 1; kind < 256; kind++) {
            if (kind < 4 || kind > 7) {
                list("row " + kind, new Bytes().u8(4).uleb(1, 2).u8(kind), 2, 3);
            }
        }
        list("not ended", new Bytes().u8(4).uleb(1, 2), 1, 3);
        list("4 without any", new Bytes().u8(4), 1, 1);
        list("4 without the second", new Bytes().u8(4, 1), 1, 2);
        list("4 with a cut one", new Bytes().u8(4, 1, 128), 1, 2);
        list("5 without", new Bytes().u8(5).u32(0), 1, 1);
        list("6 without the second", new Bytes().u8(6).u64(1).u32(0), 1, 9);
        list("7 without the second", new Bytes().u8(7).u64(1), 1, 9);
        list("4 backwards", new Bytes().u8(4).uleb(2, 1).u8(0), 2, 0);
        list("4 first no address", new Bytes().u8(4).uleb(Long.MAX_VALUE, Long.MAX_VALUE).u8(0), 2, 0);
        list("4 second no address", new Bytes().u8(4).uleb(1, Long.MAX_VALUE - 99).u8(0), 2, 0);
        list("4 first beyond 64 bits", new Bytes().u8(4).uleb(-1, 0).u8(0), 2, 0);
        list("4 both beyond 64 bits", new Bytes().u8(4).uleb(-100, -1).u8(0), 2, 0);
        list("4 second beyond 64 bits", new Bytes().u8(4).uleb(0, -1).u8(0), 2, 0);
        list("5 no address", new Bytes().u8(5).u64(-1).u8(0), 2, 0);
        list("6 backwards", new Bytes().u8(6).u64(3).u64(2).u8(0), 2, 0);
        list("6 first no address", new Bytes().u8(6).u64(-1).u64(2).u8(0), 2, 0);
        list("6 second no address", new Bytes().u8(6).u64(1).u64(-2).u8(0), 2, 0);
        list("7 first no address", new Bytes().u8(7).u64(-1).uleb(9).u8(0), 2, 0);
        list("7 second no address", new Bytes().u8(7).u64(1).uleb(Long.MAX_VALUE).u8(0), 2, 0);
        list("7 second huge", new Bytes().u8(7).u64(1).uleb(-1).u8(0), 2, 0);
    }

    private static void limits() {
        Bytes full = new Bytes().times(200, new Bytes().u8(4).uleb(1, 1));
        AddressNamer x = one("200", Dwarf.code(1, 46, 0, 85, 23), new Bytes().u32(0), new Bytes().add(full).u8(0));
        Due.is("200 ranges", x.count(5), 200);
        Bytes b = new Bytes().add(Dwarf.code(1, 46, 1, 85, 23)).add(Dwarf.code(2, 46, 0, 17, 1, 18, 1)).u8(0);
        list("201", new Bytes().add(full).u8(4, 1, 1, 0), 4, 600);
        list("201, backwards", new Bytes().add(full).u8(4, 2, 1, 0), 2, 600);
        list("201, cut", new Bytes().add(full).u8(4, 2), 1, 602);
        list("201, then 5", new Bytes().add(full).u8(5).u64(1).u8(9), 2, 609);
        Bytes e = new Bytes().u8(1).u32(0).u8(2).u64(1).u64(1).u8(0);
        ElfFile elf = Dwarf.file(b, e).add(".debug_rnglists", new Bytes().add(full).u8(0));
        byte[] file = elf.build();
        int place = elf.placeOf(".debug_info") + 17;
        Due.refused("LOW and HIGH as the 201st", file, 4, place);
        Due.refused("the lesser fault", Dwarf.with(file, place + 1, 2), 2, place);
    }

    /** Ranges are read when all units are, and lines behind them. */
    private static void order() {
        Bytes b = new Bytes().add(Dwarf.code(1, 46, 0, 17, 1, 18, 1, 16, 23)).u8(0);
        Bytes first = Dwarf.unit(new Bytes().u8(1).u64(9).u64(8).u32(0));
        ElfFile elf = new ElfFile().add(".debug_abbrev", b)
                .add(".debug_info", new Bytes().add(first).add(Dwarf.unit(new Bytes().u8(7))));
        byte[] file = elf.build();
        int at = elf.placeOf(".debug_info");
        Due.refused("a later unit's fault", file, 3, at + first.size() + 12);
        Due.refused("ranges ahead of lines", Dwarf.file(b, new Bytes().u8(1).u64(9).u64(8).u32(0)).build(), 2,
                at + 12);
    }
}
