/** Nothing of a file that was taken or refused before shows in one that is taken later. */
public final class StaleTest {
    public static void main(String[] args) {
        symbols();
        entriesByReference();
        entriesAndRanges();
        rows();
        files();
        treesThatWereLeftOpen();
        programsThatWereLeftOpen();
        Due.finish("StaleTest");
    }

    /** Taken three times, so that wherever a file is kept, this one was there. */
    private static AddressNamer after(byte[] former) {
        AddressNamer x = Due.taken("the former file", former);
        x.load();
        x.load();
        return x;
    }

    private static AddressNamer taken(byte[] former, byte[] file, int entries) {
        AddressNamer x = after(former);
        Due.put(x, file);
        Due.is("the later file", x.load(), entries);
        return x;
    }

    private static byte[] symbols(int number) {
        Bytes rows = new Bytes();
        for (int i = 0; i < number; i++) {
            rows.add(Dwarf.symbol(0, 2, 1, 100 * i, 10));
        }
        return new ElfFile().add(".symtab", rows).add(".strtab", new Bytes().text("a")).build();
    }

    private static void symbols() {
        AddressNamer x = taken(symbols(5), symbols(2), 0);
        for (int i = 0; i < 5; i++) {
            x.find(100 * i + 5);
            Due.is("symbol " + i, x.symbol(0), i < 2 ? i : -1);
        }
        Due.is("count(2)", x.count(2), 2);
    }

    /** The former file has an entry just where the later one has none. */
    private static void entriesByReference() {
        Bytes codes = new Bytes().add(Dwarf.code(1, 17, 1)).add(Dwarf.code(2, 46, 0, 49, 19)).u8(0);
        Bytes former = new Bytes().u8(1, 2).u32(18).u8(2).u32(12).u8(0);
        AddressNamer x = after(Dwarf.file(codes, former).build());
        ElfFile elf = Dwarf.file(codes, new Bytes().u8(1, 2).u32(18).u8(0));
        byte[] file = elf.build();
        Due.put(x, file);
        Due.is("a reference to an entry of the former file", x.load(), -1);
        Due.is("fault(0)", x.fault(0), 3);
        Due.is("fault(1)", x.fault(1), elf.placeOf(".debug_info") + 14);
    }

    private static void entriesAndRanges() {
        Bytes codes = new Bytes().add(Dwarf.code(1, 17, 1, 3, 8, 88, 11, 89, 11, 17, 1, 18, 11))
                .add(Dwarf.code(2, 46, 1, 3, 8, 88, 11, 89, 11, 17, 1, 18, 11)).u8(0);
        Bytes full = new Bytes().text("name").u8(7, 8).u64(100).u8(50);
        Bytes former = new Bytes().u8(1).add(full).times(3, new Bytes().u8(2).add(full).u8(0)).u8(0);
        Bytes bare = new Bytes().add(Dwarf.code(1, 46, 1)).u8(0);
        AddressNamer x = taken(Dwarf.file(codes, former).build(),
                Dwarf.file(bare, new Bytes().u8(1, 1, 0, 0)).build(), 2);
        Due.is("find(100)", x.find(100), 0);
        Due.is("count(5)", x.count(5), 0);
        for (int e = 0; e < 4; e++) {
            Due.is("holds(" + e + ")", x.holds(e, 100), false);
            Due.is("ranges of " + e, x.entry(e, 4), e < 2 ? 0 : -1);
            for (int what = 6; what <= 8; what++) {
                Due.is("entry(" + e + ", " + what + ")", x.entry(e, what), -1);
            }
            Due.is("origin of " + e, x.entry(e, 3), -1);
        }
    }

    private static byte[] lined(Bytes program) {
        Bytes codes = new Bytes().add(Dwarf.code(1, 46, 0, 17, 1, 18, 5, 16, 23)).u8(0);
        return Dwarf.file(codes, new Bytes().u8(1).u64(0).u16(1000).u32(0))
                .add(".debug_line", new LineTable().program(program).build()).build();
    }

    /** The former file's rows would govern what the later one's don't. */
    private static void rows() {
        Bytes end = LineTable.endSequence();
        Bytes former = new Bytes();
        for (int i = 0; i < 6; i++) {
            former.add(LineTable.setAddress(100 * i)).u8(1);
        }
        AddressNamer x = taken(lined(former.add(end)), lined(new Bytes().u8(1, 2, 50).add(end)), 1);
        Due.is("count(6)", x.count(6), 2);
        for (int i = 0; i < 6; i++) {
            x.find(100 * i);
            Due.is("FILE at " + 100 * i, x.frame(0, 1), i == 0 ? 1 : 0);
            Due.is("LINE at " + 100 * i, x.frame(0, 2), i == 0 ? 1 : 0);
            Due.is("rowAt(" + i + ")", x.rowAt(i), i == 0 ? 0 : i == 1 ? 50 : -1);
        }
    }

    private static void files() {
        Bytes bare = new Bytes().add(Dwarf.code(1, 46, 0, 17, 1, 18, 5)).u8(0);
        AddressNamer x = taken(lined(new Bytes()), Dwarf.file(bare, new Bytes().u8(1).u64(0).u16(9)).build(), 1);
        x.find(5);
        Due.is("count(7)", x.count(7), 0);
        Due.is("signs of its file", x.frame(0, 4), -1);
        Due.is("sign of its file", x.file(0, 0), -1);
    }

    /** A file that is refused deep in a tree leaves nothing open for the next one. */
    private static void treesThatWereLeftOpen() {
        Bytes codes = new Bytes().add(Dwarf.code(1, 17, 1)).add(Dwarf.code(2, 46, 0, 49, 19)).u8(0);
        Bytes good = new Bytes().u8(1, 2).u32(12).u8(0);
        for (int deep = 1; deep <= 24; deep++) {
            AddressNamer x = new AddressNamer();
            Due.put(x, Dwarf.file(codes, new Bytes().times(deep, new Bytes().u8(1))).build());
            Due.is("left open", x.load(), -1);
            Due.put(x, Dwarf.file(codes, good).build());
            Due.is("the next one", x.load(), 2);
            Due.is("its first entry's parent", x.entry(0, 1), -1);
            Due.is("its second entry's parent", x.entry(1, 1), 0);
            Due.is("its second entry's origin", x.entry(1, 3), 0);
        }
    }

    /** A program that is refused within a sequence leaves no registers for the next one. */
    private static void programsThatWereLeftOpen() {
        Bytes end = LineTable.endSequence();
        AddressNamer x = new AddressNamer();
        Due.put(x, lined(new Bytes().add(LineTable.setAddress(500)).u8(3, 9, 4, 9, 1)));
        Due.is("left open", x.load(), -1);
        Due.is("fault(0)", x.fault(0), 1);
        Due.put(x, lined(new Bytes().u8(1).add(end)));
        Due.is("the next one", x.load(), 1);
        Due.is("rowAt(0)", x.rowAt(0), 0);
        Due.is("row(0, 1)", x.row(0, 1), 1);
        Due.is("row(0, 2)", x.row(0, 2), 1);
        Due.is("count(6)", x.count(6), 2);
    }
}
