/** What was taken stays, whatever comes on the tape, until another file is taken (promises 5, 6, 16). */
public final class KeepTest {
    public static void main(String[] args) {
        counts();
        changedTape();
        refusedAtEachStage();
        anotherFile();
        filesGo();
        fullTape();
        Due.finish("KeepTest");
    }

    private static final int[] COUNTS = {9, 2, 2, Sample.ENTRIES, 10, 7, 2};

    private static void unchanged(String what, AddressNamer x) {
        for (int i = 1; i <= 7; i++) {
            Due.is(what + ": count(" + i + ")", x.count(i), COUNTS[i - 1]);
        }
        Due.is(what + ": entry(4, 3)", x.entry(4, 3), 1);
        Due.is(what + ": entry(4, 8)", x.entry(4, 8), 77);
        Due.is(what + ": entry(5, 4)", x.entry(5, 4), 2);
        Due.is(what + ": holds(5, 1039)", x.holds(5, 1039), true);
        Due.is(what + ": row(3, 1)", x.row(3, 1), 5);
        Due.is(what + ": rowAt(3)", x.rowAt(3), 1032);
        Due.is(what + ": frame(2, 2)", x.frame(2, 2), 77);
        Due.is(what + ": name(2, 3)", x.name(2, 3), 'n');
        Due.is(what + ": name(0, 3)", x.name(0, 3), 'f');
        Due.is(what + ": file(2, 1)", x.file(2, 1), 'b');
    }

    private static AddressNamer sample() {
        AddressNamer x = Due.taken("sample", Sample.elf().build(), Sample.ENTRIES);
        x.find(1030);
        return x;
    }

    private static void counts() {
        AddressNamer x = sample();
        unchanged("sample", x);
        Due.is("count(0)", x.count(0), Sample.elf().build().length);
        Due.is("count(8)", x.count(8), -1);
        Due.is("count(-1)", x.count(-1), -1);
    }

    private static void changedTape() {
        AddressNamer x = sample();
        x.end(0);
        Due.is("count(0)", x.count(0), 0);
        unchanged("an empty tape", x);
        for (int i = 0; i < 120; i++) {
            x.feed(-1, -1, -1, -1, -1);
        }
        unchanged("another tape", x);
        Due.is("load", x.load(), -1);
        Due.is("fault(0)", x.fault(0), 2);
        Due.is("fault(1)", x.fault(1), 0);
        unchanged("another tape, refused", x);
    }

    private static void refusedAtEachStage() {
        ElfFile elf = Sample.elf();
        byte[] file = elf.build();
        int info = elf.placeOf(".debug_info");
        int[][] faults = {{60, 0, 2, 60}, {elf.rowOf(2), 255, 3, elf.rowOf(2)},
            {elf.placeOf(".symtab") + 24, 200, 3, elf.placeOf(".symtab") + 24},
            {info + 4, 9, 2, info + 4}, {elf.placeOf(".debug_abbrev") + 2, 9, 2, elf.placeOf(".debug_abbrev") + 2},
            {info + 12, 11, 3, info + 12},
            {elf.placeOf(".debug_rnglists"), 9, 2, elf.placeOf(".debug_rnglists")},
            {elf.placeOf(".debug_line") + 4, 9, 2, elf.placeOf(".debug_line") + 4},
            {elf.placeOf(".debug_line") + Sample.lines().build().size() - 1, 7, 1,
                elf.placeOf(".debug_line") + Sample.lines().build().size()}};
        for (int[] f : faults) {
            AddressNamer x = sample();
            int before = file[f[0]];
            x.poke(f[0], f[1]);
            Due.is("load() with a fault at " + f[3], x.load(), -1);
            Due.is("fault(0)", x.fault(0), f[2]);
            Due.is("fault(1)", x.fault(1), f[3]);
            unchanged("refused", x);
            x.poke(f[0], before);
            Due.is("load() again", x.load(), Sample.ENTRIES);
            Due.is("fault(0)", x.fault(0), 0);
            Due.is("fault(1)", x.fault(1), -1);
            Due.is("find() again", x.find(1030), 3);
            unchanged("taken again", x);
        }
    }

    /** Nothing of a larger file may show through a smaller one that is taken behind it. */
    private static void anotherFile() {
        AddressNamer x = sample();
        Due.put(x, new ElfFile().build());
        Due.is("a small file", x.load(), 0);
        for (int i = 2; i <= 7; i++) {
            Due.is("count(" + i + ")", x.count(i), 0);
        }
        Due.is("count(1)", x.count(1), 2);
        Due.is("entry", x.entry(0, 0), -1);
        Due.is("holds", x.holds(2, 1000), false);
        Due.is("row", x.row(0, 0), -1);
        Due.is("rowAt", x.rowAt(0), -1);
        Due.is("find", x.find(1030), 0);
        Due.is("symbol", x.symbol(0), -1);
        Bytes b = new Bytes().add(Dwarf.code(1, 46, 1)).u8(0);
        Due.put(x, Dwarf.file(b, new Bytes().u8(1, 1, 1, 1, 1, 0, 0, 0, 0, 0)).build());
        Due.is("entries without attributes", x.load(), 5);
        for (int e = 0; e < 5; e++) {
            int[] due = {46, e - 1, 0, -1, 0, x.entry(0, 5) + e, -1, -1, -1};
            for (int what = 0; what < 9; what++) {
                Due.is("entry(" + e + ", " + what + ")", x.entry(e, what), due[what]);
            }
        }
        Due.put(x, Sample.elf().build());
        Due.is("the sample again", x.load(), Sample.ENTRIES);
        x.find(1030);
        unchanged("the sample again", x);
    }

    /** A unit without lines has no files, though one with lines was read in its place before. */
    private static void filesGo() {
        AddressNamer x = sample();
        x.load();
        Bytes b = new Bytes().add(Dwarf.code(1, 46, 0, 17, 1, 18, 11)).add(Dwarf.code(2, 17, 0, 16, 23)).u8(0);
        Bytes info = new Bytes().add(Dwarf.unit(new Bytes().u8(1).u64(100).u8(10)))
                .add(Dwarf.unit(new Bytes().u8(2).u32(0)));
        Due.put(x, new ElfFile().add(".debug_abbrev", b).add(".debug_info", info)
                .add(".debug_line", new LineTable().build()).build());
        Due.is("load()", x.load(), 2);
        Due.is("count(7)", x.count(7), 2);
        Due.is("find", x.find(105), 1);
        Due.is("file 0", x.frame(0, 1), 0);
        Due.is("none such", x.frame(0, 4), -1);
        Due.is("no sign", x.file(0, 0), -1);
    }

    private static void fullTape() {
        Bytes filler = new Bytes().times(8000 - 64 - 5 * 64 - 34 - 24 - 3, new Bytes().u8(1));
        byte[] file = new ElfFile().add("filler", filler).add(".symtab", Dwarf.symbol(0, 2, 1, 5, 5))
                .add(".strtab", new Bytes().text("ab")).build();
        Due.is("its size", file.length, 8000);
        AddressNamer x = Due.taken("a full tape", file, 0);
        Due.is("count(0)", x.count(0), 8000);
        Due.is("count(1)", x.count(1), 5);
        x.find(5);
        Due.text("its symbol's name", k -> x.name(-1, k), "ab");
    }
}
