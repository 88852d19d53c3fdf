import java.util.Arrays;

/** Part 2 of the terms, sentence by sentence: the head, the sections and the symbols at their boundaries. */
public final class SectionEdgeTest {
    private static final int[] MAGIC = {127, 69, 76, 70, 2, 1, 1};
    private static final String[] MEANT = {".symtab", ".strtab", ".debug_abbrev", ".debug_info", ".debug_str",
        ".debug_line", ".debug_rnglists"};

    public static void main(String[] args) {
        firstBytes();
        sixtyFourBytesAtLeast();
        sizeOfRows();
        howManySections();
        whichHasTheNames();
        tableLiesInTheFile();
        sectionLiesInTheFile();
        typesWithoutBytes();
        namesAreStrings();
        firstOfAName();
        oneThatIsNotThere();
        nameInFull();
        offsetsAreBelowTheSize();
        restBehindTheSymbols();
        symbolsThatMatter();
        symbolsAreAddresses();
        symbolNames();
        atMostHundredSymbols();
        Due.finish("SectionEdgeTest");
    }

    private static byte[] small() {
        return new ElfFile().build();
    }

    /** "(of those that are there the first one that is another one: 2, at it)". */
    private static void firstBytes() {
        byte[] file = small();
        for (int i = 0; i < MAGIC.length; i++) {
            Due.refused("byte " + i + " less", Dwarf.with(file, i, MAGIC[i] - 1), 2, i);
            Due.refused("byte " + i + " more", Dwarf.with(file, i, MAGIC[i] + 1), 2, i);
            byte[] alsoLater = Dwarf.with(file, 6, 9);
            Due.refused("the first of two", Dwarf.with(alsoLater, i, MAGIC[i] + 2), 2, i);
            byte[] wrong = Dwarf.with(file, i, 0);
            Due.refused("byte " + i + ", which isn't there", Arrays.copyOf(wrong, i), 1, 0);
            Due.refused("byte " + i + ", which is the last", Arrays.copyOf(wrong, i + 1), 2, i);
        }
        Due.taken("byte 7 is free", Dwarf.with(file, 7, 200), 0);
    }

    /** "it has 64 bytes at least (else 1 at 0)". */
    private static void sixtyFourBytesAtLeast() {
        byte[] file = small();
        for (int size = 0; size < 64; size++) {
            Due.refused(size + " bytes", Arrays.copyOf(file, size), 1, 0);
        }
        byte[] onItself = Dwarf.with(Arrays.copyOf(file, 64), 24, new Bytes().u64(0).u64(0).u64(0));
        byte[] one = Dwarf.with(onItself, 60, 1, 0, 0, 0);
        Due.refused("63 bytes, all else well", Arrays.copyOf(one, 63), 1, 0);
        // The head is its own table here: its one section has no bytes, so that no name is in it.
        Due.refused("64 bytes", one, 3, 0);
        Due.refused("65 bytes", Arrays.copyOf(one, 65), 3, 0);
    }

    /** "the size of its rows (2 bytes: 64; else 2)". */
    private static void sizeOfRows() {
        byte[] file = small();
        int[] sizes = {0, 63, 64, 65, 320, 16384, 65535};
        for (int s : sizes) {
            byte[] told = Dwarf.with(file, 58, s & 255, s >> 8);
            if (s == 64) {
                Due.taken("rows of 64", told, 0);
            } else {
                Due.refused("rows of " + s, told, 2, 58);
            }
        }
    }

    private static ElfFile sections(int number) {
        ElfFile elf = new ElfFile();
        for (int i = 2; i < number; i++) {
            elf.add("s", new Bytes());
        }
        return elf;
    }

    /** "how many there are (2 bytes: 1 .. 30; 0: 2, more: 4)". */
    private static void howManySections() {
        byte[] file = small();
        Due.refused("no section", Dwarf.with(file, 60, 0, 0), 2, 60);
        Bytes alone = new Bytes().u8(127, 69, 76, 70, 2, 1, 1, 0).u64(0).u64(0).u64(0).u64(0).u64(65).u64(0)
                .u16(0).u16(64).u16(1).u16(0).u8(0);
        alone.u32(0).u32(3).u64(0).u64(0).u64(64).u64(1).u64(0).u64(0).u64(0);
        Due.is("one section", Due.taken("one section", alone.toArray(), 0).count(1), 1);
        for (int number = 29; number <= 31; number++) {
            byte[] many = sections(number).build();
            if (number <= 30) {
                Due.is(number + " sections", Due.taken(number + " sections", many, 0).count(1), number);
            } else {
                Due.refused(number + " sections", many, 4, 60);
            }
        }
        int[] more = {32, 255, 256, 257, 65535};
        for (int number : more) {
            Due.refused(number + " sections", Dwarf.with(file, 60, number & 255, number >> 8), 4, 60);
        }
    }

    /** "which of them has the names (2 bytes; none such: 3)". */
    private static void whichHasTheNames() {
        ElfFile elf = sections(4);
        byte[] file = elf.build();
        Due.taken("the last one", Dwarf.with(file, 62, 3, 0), 0);
        Due.refused("one behind the last", Dwarf.with(file, 62, 4, 0), 3, 62);
        Due.refused("two behind the last", Dwarf.with(file, 62, 5, 0), 3, 62);
        Due.refused("256 more", Dwarf.with(file, 62, 3, 1), 3, 62);
        Due.refused("the greatest", Dwarf.with(file, 62, 255, 255), 3, 62);
        Due.refused("the first one, which has no bytes", Dwarf.with(file, 62, 0, 0), 3, elf.rowOf(0));
    }

    /** "The table lies in the FILE (else 1 at 40)." */
    private static void tableLiesInTheFile() {
        ElfFile elf = sections(3);
        byte[] file = elf.build();
        Due.is("the table ends with the file", elf.rowOf(3), file.length);
        Due.taken("a byte behind the table", Arrays.copyOf(file, file.length + 1), 0);
        Due.refused("a byte of it is missing", Arrays.copyOf(file, file.length - 1), 1, 40);
        long[] offsets = {file.length - 191, file.length, file.length + 1, Integer.MAX_VALUE, 1L << 32,
            (1L << 32) + elf.table(), Long.MAX_VALUE, Long.MAX_VALUE - 191, Long.MIN_VALUE, -1, -192};
        for (long offset : offsets) {
            Due.refused("a table at " + offset, Dwarf.with(file, 40, new Bytes().u64(offset)), 1, 40);
        }
    }

    private static byte[] placed(byte[] file, int row, int type, long offset, long size) {
        return Dwarf.with(Dwarf.with(file, row + 4, new Bytes().u32(type)), row + 24,
                new Bytes().u64(offset).u64(size));
    }

    /** "A SECTION of another type than 0 and 8 lies in the FILE (else 1, at its row)". */
    private static void sectionLiesInTheFile() {
        ElfFile elf = sections(3);
        byte[] file = elf.build();
        int row = elf.rowOf(1);
        int all = file.length;
        long[][] inside = {{0, 0}, {0, all}, {1, all - 1}, {all - 1, 1}, {all, 0}};
        for (long[] p : inside) {
            Due.taken("from " + p[0] + " on " + p[1], placed(file, row, 1, p[0], p[1]), 0);
        }
        long[][] outside = {{0, all + 1}, {1, all}, {all - 1, 2}, {all, 1}, {all + 1, 0}, {0, -1}, {-1, 0}, {-1, 1},
            {-1, 2}, {10, -10}, {Long.MAX_VALUE, 1}, {1, Long.MAX_VALUE}, {Long.MIN_VALUE, Long.MIN_VALUE},
            {0, 1L << 32}, {1L << 32, 0}, {0, 1L << 56}, {1L << 56, 0}, {0, Long.MIN_VALUE}};
        for (long[] p : outside) {
            Due.refused("from " + p[0] + " on " + p[1], placed(file, row, 1, p[0], p[1]), 1, row);
        }
        int[] types = {1, 2, 7, 9, 256, 264, 65536, 1 << 24, 8 << 24, -1};
        for (int type : types) {
            Due.taken("type " + type + " in the file", placed(file, row, type, all, 0), 0);
            Due.refused("type " + type + " not in the file", placed(file, row, type, all, 1), 1, row);
        }
        Due.taken("type 0 not in the file", placed(file, row, 0, all, 1), 0);
        Due.taken("type 8 not in the file", placed(file, row, 8, -1, -1), 0);
        Due.refused("the last row", placed(file, elf.rowOf(2), 3, 0, all + 1), 1, elf.rowOf(2));
    }

    private static ElfFile sampleWith(String name, int type) {
        ElfFile elf = Sample.elf();
        elf.build();
        elf.retype(name, type);
        return elf;
    }

    /** "of these two types it has no bytes". */
    private static void typesWithoutBytes() {
        int[] types = {0, 8};
        for (int type : types) {
            Due.is("no symbols", Due.taken("no symbols", sampleWith(".symtab", type).build()).count(2), 0);
            Due.is("no units", Due.taken("no units", sampleWith(".debug_info", type).build()).count(3), 0);
            Edge.ask("no names of symbols", sampleWith(".strtab", type), ".symtab", 0, 3);
            Edge.ask("no abbreviations", sampleWith(".debug_abbrev", type), ".debug_info", 8, 3);
            Edge.ask("no lines", sampleWith(".debug_line", type), ".debug_info", 0, 3);
            ElfFile ranges = sampleWith(".debug_rnglists", type);
            int block = Due.taken("sample", Sample.elf().build(), Sample.ENTRIES).entry(5, 5);
            Due.refused("no ranges", ranges.build(), 3, block);
            int second = Due.taken("sample", Sample.elf().build(), Sample.ENTRIES).entry(10, 5);
            Due.refused("no strings", sampleWith(".debug_str", type).build(), 3, second + 1);
        }
        Due.is("type 7 has bytes", Due.taken("type 7", sampleWith(".symtab", 7).build()).count(2), 2);
        Due.is("type 9 has bytes", Due.taken("type 9", sampleWith(".symtab", 9).build()).count(2), 2);
    }

    /** "its name is a STRING in the SECTION of names (offset not in it: 3, not ended in it: 1; both at the row)". */
    private static void namesAreStrings() {
        ElfFile elf = sections(3);
        byte[] file = elf.build();
        int size = 1 + 2 + 10;
        for (int i = 0; i < 3; i++) {
            int row = elf.rowOf(i);
            Due.taken("a name of the last byte", Dwarf.with(file, row, new Bytes().u32(size - 1)), 0);
            Due.refused("a name just behind", Dwarf.with(file, row, new Bytes().u32(size)), 3, row);
            Due.refused("a name one further", Dwarf.with(file, row, new Bytes().u32(size + 1)), 3, row);
            Due.refused("a name at -1", Dwarf.with(file, row, new Bytes().u32(-1)), 3, row);
            Due.refused("a name at 2147483648", Dwarf.with(file, row, new Bytes().u32(1L << 31)), 3, row);
        }
        // Without its last byte the section's last name isn't ended, nor is one of its last sign.
        byte[] cut = Dwarf.with(file, elf.rowOf(2) + 32, new Bytes().u64(size - 1));
        Due.refused("a name that isn't ended", cut, 1, elf.rowOf(2));
        Due.refused("one of the last sign", Dwarf.with(cut, elf.rowOf(1), new Bytes().u32(size - 2)), 1, elf.rowOf(1));
        Due.refused("just behind that", Dwarf.with(cut, elf.rowOf(1), new Bytes().u32(size - 1)), 3, elf.rowOf(1));
        Due.taken("another name's end is one, too", Dwarf.with(file, elf.rowOf(2), new Bytes().u32(1)), 0);
    }

    private static Bytes noise() {
        return new Bytes().times(25, new Bytes().u8(255));
    }

    /** "The first SECTION of a name is meant": a later one, which would be refused, is none of the seven. */
    private static void firstOfAName() {
        for (String name : MEANT) {
            ElfFile later = Sample.elf().add(name, noise());
            Due.is("a later " + name, Due.taken("a later " + name, later.build()).count(4), Sample.ENTRIES);
        }
        Edge.ask("an earlier .symtab", before(".symtab"), ".symtab", 0, 3);
        Edge.ask("an earlier .debug_info", before(".debug_info"), ".debug_info", 0, 2);
        Edge.ask("an earlier .strtab", before(".strtab"), ".symtab", 0, 1);
        Edge.ask("an earlier .debug_abbrev", before(".debug_abbrev"), ".debug_abbrev", 0, 1);
        Edge.ask("an earlier .debug_line", before(".debug_line"), ".debug_line", 0, 2);
        Edge.ask("an earlier .debug_rnglists", before(".debug_rnglists"), ".debug_rnglists", 0, 2);
        int second = Due.taken("sample", Sample.elf().build(), Sample.ENTRIES).entry(10, 5) + 25 + 1;
        Due.refused("an earlier .debug_str", before(".debug_str").build(), 1, second);
    }

    /** Row 0 of the sample's table becomes a section of a name that comes again later. */
    private static ElfFile before(String name) {
        return Sample.elf().first(name, name.equals(".symtab") ? Dwarf.symbol(-1, 2, 1, 1, 1) : noise());
    }

    /** "one that isn't there has no bytes". */
    private static void oneThatIsNotThere() {
        for (String name : MEANT) {
            AddressNamer x = Due.taken("nothing but " + name, new ElfFile().add(name, new Bytes()).build(), 0);
            Due.is("symbols", x.count(2), 0);
            Due.is("units", x.count(3), 0);
        }
        ElfFile noNames = new ElfFile().add(".symtab", Dwarf.symbol(0, 2, 1, 1, 1));
        Edge.ask("no .strtab", noNames, ".symtab", 0, 3);
        ElfFile noCodes = new ElfFile().add(".debug_info", Dwarf.unit(new Bytes().u8(1)));
        Edge.ask("no .debug_abbrev", noCodes, ".debug_info", 8, 3);
        Bytes text = new Bytes().add(Dwarf.code(1, 17, 0, 3, 14)).u8(0);
        Edge.entries("no .debug_str", text, new Bytes().u8(1).u32(0), 1, 3);
        Bytes ranges = new Bytes().add(Dwarf.code(1, 17, 0, 85, 23)).u8(0);
        Edge.entries("no .debug_rnglists", ranges, new Bytes().u8(1).u32(0), 0, 3);
        Bytes lines = new Bytes().add(Dwarf.code(1, 17, 0, 16, 23)).u8(0);
        Edge.entries("no .debug_line", lines, new Bytes().u8(1).u32(0), -12, 3);
    }

    /** A name is one of the seven from its first sign to its last. */
    private static void nameInFull() {
        for (String name : MEANT) {
            String[] others = {name.substring(1), name.substring(0, name.length() - 1), name + "x", "x" + name,
                name.toUpperCase(), "," + name.substring(1), name.substring(0, name.length() - 1) + "\u00ff"};
            for (String other : others) {
                ElfFile elf = Sample.elf().first(other, noise());
                Due.is(other + " is another one", Due.taken(other, elf.build()).count(4), Sample.ENTRIES);
            }
        }
    }

    /** "Offsets in a SECTION that are told are below its size (else 3)." */
    private static void offsetsAreBelowTheSize() {
        Bytes codes = new Bytes().add(Dwarf.code(1, 17, 0)).u8(0).add(Dwarf.code(1, 46, 0)).u8(0);
        int size = codes.size();
        long[] far = {size, size + 1, 1L << 31, -1};
        Edge.ask("the second table", new ElfFile().add(".debug_abbrev", codes)
                .add(".debug_info", Dwarf.unit(6, new Bytes().u8(1))), ".debug_info", 0, Edge.WELL);
        Edge.ask("the last byte: a table without codes", new ElfFile().add(".debug_abbrev", codes)
                .add(".debug_info", Dwarf.unit(size - 1, new Bytes().u8(1))), ".debug_info", 12, 3);
        for (long offset : far) {
            Edge.ask("abbreviations at " + offset, new ElfFile().add(".debug_abbrev", codes)
                    .add(".debug_info", Dwarf.unit(offset, new Bytes().u8(1))), ".debug_info", 8, 3);
        }
        Bytes text = new Bytes().add(Dwarf.code(1, 17, 0, 500, 14)).u8(0);
        long[][] texts = {{0, 0}, {2, 0}, {3, 3}, {4, 3}, {1L << 31, 3}, {-1, 3}};
        for (long[] t : texts) {
            Edge.ask("a string at " + t[0], Dwarf.file(text, new Bytes().u8(1).u32(t[0]))
                    .add(".debug_str", new Bytes().text("ab")), ".debug_info", 13, (int) t[1]);
        }
        Bytes ranges = new Bytes().add(Dwarf.code(1, 17, 0, 85, 23)).u8(0);
        for (long[] t : texts) {
            Edge.ask("ranges at " + t[0], Dwarf.file(ranges, new Bytes().u8(1).u32(t[0]))
                    .add(".debug_rnglists", new Bytes().u8(0, 0, 0)), ".debug_info", 12, (int) t[1]);
        }
    }

    /** ".symtab has rows of 24 bytes (behind all of them a rest: 1, where it begins)". */
    private static void restBehindTheSymbols() {
        for (int size = 0; size <= 73; size++) {
            int rest = size % 24;
            Edge.ask("symbols of " + size + " bytes", new ElfFile().add(".symtab",
                    new Bytes().times(size, new Bytes().u8(0))), ".symtab", size - rest, rest == 0 ? Edge.WELL : 1);
        }
    }

    private static int symbols(Bytes symbol) {
        byte[] file = new ElfFile().add(".symtab", symbol).add(".strtab", new Bytes().text("a")).build();
        return Due.taken("a symbol", file, 0).count(2);
    }

    /** "those whose INFO modulo 16 is 2, whose number isn't 0 and whose SIZE isn't 0": others don't matter. */
    private static void symbolsThatMatter() {
        for (int info = 0; info < 256; info++) {
            Due.is("INFO " + info, symbols(Dwarf.symbol(0, info, 1, 1, 1)), info % 16 == 2 ? 1 : 0);
        }
        int[] numbers = {0, 1, 2, 255, 256, 32768, 65535};
        for (int number : numbers) {
            Due.is("number " + number, symbols(Dwarf.symbol(0, 2, number, 1, 1)), number == 0 ? 0 : 1);
        }
        long[] sizes = {0, 1, 2, 256, 1L << 32, 1L << 56};
        for (long size : sizes) {
            Due.is("size " + size, symbols(Dwarf.symbol(0, 2, 1, 1, size)), size == 0 ? 0 : 1);
        }
        Bytes one = Dwarf.symbol(0, 2, 1, 1, 1);
        ElfFile between = new ElfFile().add("ahead", one).add(".symtab", one).add("behind", one)
                .add(".strtab", new Bytes().text("a"));
        Due.is("rows just beside the section", Due.taken("between", between.build(), 0).count(2), 1);
        Due.is("no function, all wrong", symbols(Dwarf.symbol(-1, 1, 1, -1, -1)), 0);
        Due.is("no section, all wrong", symbols(Dwarf.symbol(-1, 2, 0, -1, -1)), 0);
        Due.is("no size, all wrong", symbols(Dwarf.symbol(-1, 2, 1, -1, 0)), 0);
    }

    private static void symbol(Bytes symbol, int fault) {
        Bytes rows = new Bytes().add(Dwarf.symbol(-1, 0, 0, -1, -1)).add(symbol);
        Edge.ask("a symbol", new ElfFile().add(".symtab", rows).add(".strtab", new Bytes().text("a").raw("b")),
                ".symtab", 24, fault);
    }

    /** "VALUE, SIZE, and both together are ADDRESSES (else 2, at the row)". */
    private static void symbolsAreAddresses() {
        long most = Long.MAX_VALUE;
        long[][] well = {{0, 1}, {0, most}, {1, most - 1}, {most - 1, 1}, {1, 1}};
        for (long[] w : well) {
            symbol(Dwarf.symbol(0, 2, 1, w[0], w[1]), Edge.WELL);
        }
        long[][] wrong = {{-1, 1}, {-1, 2}, {Long.MIN_VALUE, 1}, {1, -1}, {2, -1}, {0, Long.MIN_VALUE}, {1, most},
            {most, 1}, {most, most}, {most - 1, 2}, {-1, -1}, {Long.MIN_VALUE, Long.MIN_VALUE}};
        for (long[] w : wrong) {
            symbol(Dwarf.symbol(0, 2, 1, w[0], w[1]), 2);
            symbol(Dwarf.symbol(9, 2, 1, w[0], w[1]), 2);
        }
    }

    /** "the name is a STRING in .strtab (else 3, 1, at the row)". */
    private static void symbolNames() {
        int[][] names = {{0, 0}, {1, 0}, {2, 1}, {3, 3}, {4, 3}, {Integer.MIN_VALUE, 3}, {-1, 3}};
        for (int[] n : names) {
            symbol(Dwarf.symbol(n[0], 2, 1, 1, 1), n[1]);
        }
    }

    /** "At most 100 of these (else 4, at the row, asked behind the others)." */
    private static void atMostHundredSymbols() {
        Bytes one = Dwarf.symbol(0, 2, 1, 5, 5);
        Bytes other = Dwarf.symbol(-1, 1, 1, -1, 5);
        for (int number = 99; number <= 101; number++) {
            Bytes rows = new Bytes().times(7, other).times(number - 1, one).times(7, other).add(one).add(other);
            Edge.ask(number + " symbols", new ElfFile().add(".symtab", rows).add(".strtab", new Bytes().text("")),
                    ".symtab", (14 + number - 1) * 24, number > 100 ? 4 : Edge.WELL);
        }
        Bytes[] last = {Dwarf.symbol(0, 2, 1, -1, 5), Dwarf.symbol(3, 2, 1, 5, 5), Dwarf.symbol(1, 2, 1, 5, 5)};
        int[] faults = {2, 3, 1};
        for (int i = 0; i < last.length; i++) {
            Edge.ask("a wrong one behind 100", new ElfFile().add(".symtab", new Bytes().times(100, one).add(last[i]))
                    .add(".strtab", new Bytes().text("").raw("ab")), ".symtab", 2400, faults[i]);
        }
    }
}
