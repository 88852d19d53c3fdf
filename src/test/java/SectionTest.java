/** Part 2 of the terms: the head, the sections and the symbols (promises 5, 6, 13, 15, 16). */
public final class SectionTest {
    public static void main(String[] args) {
        head();
        sections();
        names();
        meantSections();
        symbolFaults();
        symbolsFound();
        symbolLimit();
        Due.finish("SectionTest");
    }

    private static void head() {
        byte[] file = new ElfFile().build();
        AddressNamer x = Due.taken("two sections", file, 0);
        Due.is("count(1)", x.count(1), 2);
        Due.refused("nothing", new byte[0], 1, 0);
        Due.refused("63 bytes", java.util.Arrays.copyOf(file, 63), 1, 0);
        Due.refused("64 bytes", java.util.Arrays.copyOf(file, 64), 1, 40);
        Due.refused("a wrong byte of two", new byte[] {127, 70}, 2, 1);
        Due.refused("size of rows", Dwarf.with(file, 58, 63), 2, 58);
        Due.refused("size of rows, high byte", Dwarf.with(file, 59, 1), 2, 58);
        Due.refused("no sections", Dwarf.with(file, 60, 0), 2, 60);
        Due.refused("31 sections", Dwarf.with(file, 60, 31), 4, 60);
        Due.refused("256 sections", Dwarf.with(file, 60, 0, 1), 4, 60);
        Due.refused("names of none", Dwarf.with(file, 62, 2), 3, 62);
        Due.refused("names of none, high byte", Dwarf.with(file, 63, 1), 3, 62);
        Due.refused("sizes are asked first", Dwarf.with(file, 58, 1, 0, 0, 0, 9, 0), 2, 58);
        Due.refused("then how many", Dwarf.with(file, 60, 0, 0, 9, 0), 2, 60);
        Due.refused("then which has the names",
                Dwarf.with(Dwarf.with(file, 40, 255), 62, 2), 3, 62);
        int last = file.length - 128;
        Due.refused("table behind the file", Dwarf.with(file, 40, (last + 1) & 255, (last + 1) >> 8), 1, 40);
        Due.refused("table far away", Dwarf.with(file, 47, 127), 1, 40);
        Due.refused("table below 0", Dwarf.with(file, 47, 128), 1, 40);
        Due.refused("table one row too long", Dwarf.with(file, 60, 3), 1, 40);
        ElfFile most = new ElfFile();
        for (int i = 0; i < 28; i++) {
            most.add("s" + i, new Bytes().u8(i));
        }
        Due.is("30 sections", Due.taken("30 sections", most.build(), 0).count(1), 30);
    }

    private static void sections() {
        ElfFile elf = new ElfFile().add("a", new Bytes().u32(7));
        byte[] file = elf.build();
        int row = elf.rowOf(1);
        int size = file.length;
        Due.taken("a section up to the end",
                Dwarf.with(file, row + 24, new Bytes().u64(size - 4)), 0);
        Due.refused("a section over the end",
                Dwarf.with(file, row + 24, new Bytes().u64(size - 3)), 1, row);
        Due.taken("nothing at the end", Dwarf.with(file, row + 24, new Bytes().u64(size).u64(0)), 0);
        Due.refused("nothing behind the end",
                Dwarf.with(file, row + 24, new Bytes().u64(size + 1).u64(0)), 1, row);
        Due.refused("offset below 0", Dwarf.with(file, row + 24, new Bytes().u64(-1).u64(2)), 1, row);
        Due.refused("size below 0", Dwarf.with(file, row + 24, new Bytes().u64(5).u64(-2)), 1, row);
        Due.refused("both huge", Dwarf.with(file, row + 24,
                new Bytes().u64(Long.MAX_VALUE).u64(Long.MAX_VALUE)), 1, row);
        byte[] away = Dwarf.with(file, row + 24, new Bytes().u64(99999));
        Due.taken("type 0 need not lie in the file", Dwarf.with(away, row + 4, 0), 0);
        Due.taken("type 8 need not lie in the file", Dwarf.with(away, row + 4, 8), 0);
        Due.refused("type 9 must", Dwarf.with(away, row + 4, 9), 1, row);
        Due.refused("type 256 must", Dwarf.with(away, row + 4, 0, 1), 1, row);
        Due.taken("a section at 0", Dwarf.with(file, row + 24, new Bytes().u64(0)), 0);
        Due.refused("row 0 is one of them", Dwarf.with(Dwarf.with(file, elf.rowOf(0) + 4, 1), elf.rowOf(0) + 31, 1),
                1, elf.rowOf(0));
        Due.refused("row 2 ahead of the names of row 0",
                Dwarf.with(Dwarf.with(file, elf.rowOf(2) + 31, 9), elf.rowOf(0), 255), 1, elf.rowOf(2));
    }

    private static void names() {
        ElfFile elf = new ElfFile().add("a", new Bytes().u32(0x01010101));
        byte[] file = elf.build();
        int length = 1 + 2 + 10;
        Due.taken("a name's last byte", Dwarf.with(file, elf.rowOf(1), length - 1), 0);
        Due.refused("a name behind the names", Dwarf.with(file, elf.rowOf(1), length), 3, elf.rowOf(1));
        Due.refused("a name far away", Dwarf.with(file, elf.rowOf(0) + 3, 255), 3, elf.rowOf(0));
        Due.refused("a name that doesn't end", Dwarf.with(file, elf.table() - 1, 65), 1, elf.rowOf(2));
        Due.refused("row by row", Dwarf.with(Dwarf.with(file, elf.table() - 1, 65), elf.rowOf(1), 99), 3,
                elf.rowOf(1));
        Due.refused("names without an end", Dwarf.with(file, 62, 1), 1, elf.rowOf(0));
        Due.refused("names of type 0", Dwarf.with(file, 62, 0), 3, elf.rowOf(0));
        Due.refused("names of type 8", Dwarf.with(file, elf.rowOf(2) + 4, 8), 3, elf.rowOf(0));
    }

    private static void meantSections() {
        Bytes texts = new Bytes().text("").text("one");
        Bytes one = Dwarf.symbol(1, 2, 1, 100, 10);
        ElfFile first = new ElfFile().add(".strtab", texts).add(".symtab", one)
                .add(".symtab", new Bytes().u8(1)).add(".strtab", new Bytes());
        Due.is("the first of a name", Due.taken("two of a name", first.build(), 0).count(2), 1);
        ElfFile empty = new ElfFile().add(".symtab", 8, one).add(".symtab", one).add(".strtab", texts);
        Due.is("the first has no bytes", Due.taken("first of type 8", empty.build(), 0).count(2), 0);
        ElfFile longer = new ElfFile().add(".symtabs", one).add(".symta", one).add("-symtab", one)
                .add(".symtaB", one).add(".strtab", texts);
        Due.is("other names", Due.taken("other names", longer.build(), 0).count(2), 0);
        ElfFile without = new ElfFile().add(".symtab", one);
        byte[] file = without.build();
        Due.refused("no .strtab", file, 3, without.placeOf(".symtab"));
    }

    private static void symbolFaults() {
        Bytes texts = new Bytes().text("").text("one").raw("two");
        ElfFile elf = new ElfFile().add(".strtab", texts).add(".symtab", new Bytes()
                .add(Dwarf.symbol(1, 2, 1, 100, 10)).add(Dwarf.symbol(1, 18, 1, 100, 10)));
        byte[] file = elf.build();
        int row = elf.placeOf(".symtab") + 24;
        Due.is("both", Due.taken("both", file, 0).count(2), 2);
        Due.refused("value below 0", Dwarf.with(file, row + 15, 128), 2, row);
        Due.refused("size below 0", Dwarf.with(file, row + 23, 128), 2, row);
        Due.refused("both below 0", Dwarf.with(Dwarf.with(file, row + 15, 127), row + 23, 127), 2, row);
        Due.refused("value below 0, both together not",
                Dwarf.with(file, row + 8, new Bytes().u64(-5).u64(10)), 2, row);
        Due.refused("size below 0, both together not",
                Dwarf.with(file, row + 8, new Bytes().u64(10).u64(-5)), 2, row);
        Due.taken("value 0", Dwarf.with(file, row + 8, new Bytes().u64(0).u64(1)), 0);
        Due.taken("both together just fit", Dwarf.with(file, row + 8,
                new Bytes().u64(Long.MAX_VALUE - 5).u64(5)), 0);
        Due.refused("both together by one too much", Dwarf.with(file, row + 8,
                new Bytes().u64(Long.MAX_VALUE - 5).u64(6)), 2, row);
        Due.refused("name not there", Dwarf.with(file, row, 8), 3, row);
        Due.refused("name far away", Dwarf.with(file, row + 3, 128), 3, row);
        Due.refused("name not ended", Dwarf.with(file, row, 7), 1, row);
        Due.refused("value ahead of the name", Dwarf.with(Dwarf.with(file, row, 8), row + 15, 128), 2, row);
        byte[] bad = Dwarf.with(Dwarf.with(file, row, 99), row + 15, 128);
        Due.is("other kind", Due.taken("other kind", Dwarf.with(bad, row + 4, 1), 0).count(2), 1);
        Due.is("no section", Due.taken("no section", Dwarf.with(bad, row + 6, 0), 0).count(2), 1);
        Due.is("no size", Due.taken("no size", Dwarf.with(bad, row + 16, 0), 0).count(2), 1);
        Due.refused("section 256", Dwarf.with(bad, row + 6, 0, 1), 2, row);
        byte[] rest = Dwarf.with(file, elf.rowOf(2) + 32, 47);
        Due.refused("a rest", rest, 1, row);
        Due.refused("a rest behind all rows",
                Dwarf.with(rest, elf.placeOf(".symtab"), 99), 3, elf.placeOf(".symtab"));
    }

    private static void symbolsFound() {
        Bytes texts = new Bytes().text("").text("outer").text("in").text("same\u00e9");
        Bytes rows = new Bytes().add(Dwarf.symbol(0, 1, 1, 0, 1000))
                .add(Dwarf.symbol(1, 2, 1, 100, 100)).add(Dwarf.symbol(7, 2, 1, 120, 10))
                .add(Dwarf.symbol(10, 2, 1, 120, 20)).add(Dwarf.symbol(0, 2, 9, 500, 1));
        byte[] file = new ElfFile().add(".strtab", texts).add(".symtab", rows).build();
        AddressNamer x = Due.taken("symbols", file, 0);
        Due.is("count(2)", x.count(2), 4);
        int[][] due = {{99, -1, 0}, {100, 0, 0}, {119, 0, 19}, {120, 1, 0}, {129, 1, 9}, {130, 2, 10},
            {139, 2, 19}, {140, 0, 40}, {199, 0, 99}, {200, -1, 0}, {500, 3, 0}, {501, -1, 0}, {-1, -1, 0}};
        for (int[] d : due) {
            Due.is("find(" + d[0] + ")", x.find(d[0]), 0);
            Due.is("symbol(0) of " + d[0], x.symbol(0), d[1]);
            Due.is("symbol(2) of " + d[0], x.symbol(2), d[1] < 0 ? -1 : d[2]);
        }
        x.find(130);
        Due.is("symbol(1)", x.symbol(1), 5);
        Due.is("symbol(3)", x.symbol(3), -1);
        Due.is("symbol(-1)", x.symbol(-1), -1);
        Due.text("name(-1, ..)", k -> x.name(-1, k), "same\u00e9");
        Due.is("name(-1, -1)", x.name(-1, -1), -1);
        Due.is("name(0, 0)", x.name(0, 0), -1);
        Due.is("name(-2, 0)", x.name(-2, 0), -1);
        Due.is("frame(0, 0)", x.frame(0, 0), -1);
        Due.is("frame(-1, 0)", x.frame(-1, 0), -1);
        Due.is("file(-1, 0)", x.file(-1, 0), -1);
        x.find(500);
        Due.is("an empty name", x.symbol(1), 0);
        Due.is("its sign", x.name(-1, 0), -1);
        long far = 5000000000L;
        AddressNamer y = Due.taken("far", new ElfFile().add(".strtab", texts)
                .add(".symtab", Dwarf.symbol(1, 2, 1, 1, Long.MAX_VALUE - 1)).build(), 0);
        y.find(far);
        Due.is("far above, as an int", y.symbol(2), (int) (far - 1));
        y.find(Long.MAX_VALUE);
        Due.is("the greatest address", y.symbol(0), -1);
    }

    private static void symbolLimit() {
        Bytes texts = new Bytes().text("");
        Bytes one = Dwarf.symbol(0, 2, 1, 5, 1);
        Bytes rows = new Bytes().times(100, one).add(Dwarf.symbol(0, 1, 1, 5, 1));
        AddressNamer x = Due.taken("100", new ElfFile().add(".strtab", texts).add(".symtab", rows).build(), 0);
        Due.is("100 symbols", x.count(2), 100);
        ElfFile elf = new ElfFile().add(".strtab", texts).add(".symtab", rows.add(one));
        byte[] file = elf.build();
        int row = elf.placeOf(".symtab") + 101 * 24;
        Due.refused("101 symbols", file, 4, row);
        Due.refused("others are asked first", Dwarf.with(file, row + 15, 128), 2, row);
        Due.refused("its name, too", Dwarf.with(file, row, 1), 3, row);
        Due.refused("the rest is asked behind", Dwarf.with(file, elf.rowOf(2) + 32,
                new Bytes().u64(102 * 24 + 1)), 4, row);
    }
}
