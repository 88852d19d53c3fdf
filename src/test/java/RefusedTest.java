import java.util.ArrayList;
import java.util.List;

/**
 * "What is refused changes nothing but what fault() tells." All answers are compared with those of an
 * object that nothing was refused to.
 */
public final class RefusedTest {
    private static final ElfFile ELF = Sample.elf();
    private static final byte[] FILE = ELF.build();
    private static final long[] SOUGHT = {1030, 2005};

    public static void main(String[] args) {
        for (long address : SOUGHT) {
            List<Long> due = answers(found(address));
            refusedLoads(address, due);
            refusedEnds(address, due);
            refusedPokes(address, due);
        }
        refusedFeed();
        refusedAheadOfAnyFile();
        Due.finish("RefusedTest");
    }

    private static AddressNamer found(long address) {
        AddressNamer x = Due.taken("sample", FILE, Sample.ENTRIES);
        x.find(address);
        return x;
    }

    /** All but what fault() and count(0) tell. */
    private static List<Long> answers(AddressNamer x) {
        List<Long> all = new ArrayList<>();
        for (int i = 1; i <= 7; i++) {
            all.add((long) x.count(i));
        }
        for (int e = 0; e < Sample.ENTRIES; e++) {
            for (int what = 0; what <= 8; what++) {
                all.add((long) x.entry(e, what));
            }
            all.add(x.holds(e, 1030) ? 1L : 0L);
        }
        for (int i = 0; i < 7; i++) {
            all.add(x.rowAt(i));
            for (int what = 0; what <= 3; what++) {
                all.add((long) x.row(i, what));
            }
        }
        for (int i = -1; i < 3; i++) {
            for (int k = 0; k <= 4; k++) {
                all.add((long) x.frame(i, k));
                all.add((long) x.name(i, k));
                all.add((long) x.file(i, k));
            }
            all.add((long) x.symbol(i));
        }
        return all;
    }

    private static void same(String what, AddressNamer x, List<Long> due) {
        Due.is(what + ": all answers are as before", answers(x).equals(due), true);
    }

    /** Each byte of the file becomes another one; where that is refused, nothing else may differ. */
    private static void refusedLoads(long address, List<Long> due) {
        int[] faults = new int[5];
        for (int i = 0; i < FILE.length; i++) {
            int[] values = {FILE[i] ^ 255, FILE[i] + 1};
            for (int v : values) {
                AddressNamer x = found(address);
                x.poke(i, v);
                if (x.load() == AddressNamer.NONE) {
                    faults[x.fault(0)]++;
                    Due.is("count(0)", x.count(0), FILE.length);
                    same("byte " + i + " as " + v, x, due);
                    takenBehindIt(address, i, v, due);
                }
            }
        }
        for (int fault = 1; fault <= 4; fault++) {
            Due.is("some were refused with " + fault, faults[fault] > 0, true);
        }
        for (int size = 0; size < FILE.length; size += 7) {
            AddressNamer x = found(address);
            x.end(size);
            Due.is("load() of " + size, x.load(), AddressNamer.NONE);
            same("the first " + size, x, due);
        }
    }

    /** The file is well again: it is taken as if nothing had been refused. */
    private static void takenBehindIt(long address, int i, int v, List<Long> due) {
        AddressNamer x = new AddressNamer();
        Due.put(x, FILE);
        x.poke(i, v);
        x.load();
        x.poke(i, FILE[i]);
        Due.is("load() behind a refused one", x.load(), Sample.ENTRIES);
        x.find(address);
        same("behind byte " + i + " as " + v, x, due);
    }

    private static void refusedEnds(long address, List<Long> due) {
        int[] sizes = {-1, Integer.MIN_VALUE, FILE.length + 1, 8000, Integer.MAX_VALUE};
        for (int n : sizes) {
            AddressNamer x = found(address);
            Due.is("end(" + n + ")", x.end(n), false);
            Due.is("count(0)", x.count(0), FILE.length);
            same("end(" + n + ")", x, due);
            Due.is("the tape is as before", x.load(), Sample.ENTRIES);
            x.find(address);
            Due.is("found again", x.frame(0, 0), found(address).frame(0, 0));
        }
    }

    private static void refusedPokes(long address, List<Long> due) {
        int[] places = {-1, Integer.MIN_VALUE, FILE.length, FILE.length + 1, 7999, 8000, Integer.MAX_VALUE};
        for (int i : places) {
            AddressNamer x = found(address);
            Due.is("poke(" + i + ")", x.poke(i, 77), false);
            Due.is("count(0)", x.count(0), FILE.length);
            same("poke(" + i + ")", x, due);
            Due.is("the tape is as before", x.load(), Sample.ENTRIES);
        }
    }

    /** On a tape without room for twenty bytes: none of them come, not even those that would find room. */
    private static void refusedFeed() {
        for (int left = 0; left < 20; left++) {
            int size = 8000 - left;
            Bytes filler = new Bytes().times(size - 64 - 5 * 64 - 34 - 24 - 3, new Bytes().u8(1));
            byte[] file = new ElfFile().add("filler", filler).add(".symtab", Dwarf.symbol(0, 2, 1, 5, 5))
                    .add(".strtab", new Bytes().text("ab")).build();
            AddressNamer x = Due.taken("a tape of " + size, file, 0);
            x.find(5);
            Due.is("feed()", x.feed(-1, -1, -1, -1, -1), AddressNamer.NONE);
            Due.is("count(0)", x.count(0), size);
            Due.is("fault(0)", x.fault(0), 0);
            Due.is("symbol(0)", x.symbol(0), 0);
            Due.is("name(NONE, 1)", x.name(-1, 1), 'b');
            Due.is("load()", x.load(), 0);
            x.find(5);
            Due.is("name(NONE, 1) again", x.name(-1, 1), 'b');
        }
    }

    /** A file that is refused ahead of any leaves none: what a new object answers stays. */
    private static void refusedAheadOfAnyFile() {
        List<Long> due = answers(new AddressNamer());
        int[][] faults = {{60, 0}, {ELF.rowOf(2), 255}, {ELF.placeOf(".symtab") + 24, 200},
            {ELF.placeOf(".debug_info") + 4, 9}, {ELF.placeOf(".debug_info") + 12, 11},
            {ELF.placeOf(".debug_rnglists"), 9}, {ELF.placeOf(".debug_line") + 4, 9},
            {ELF.placeOf(".debug_line") + Sample.lines().build().size() - 1, 7}};
        for (int[] f : faults) {
            same("byte " + f[0], refused(f), due);
            AddressNamer x = refused(f);
            Due.is("find(1030)", x.find(1030), 0);
            same("byte " + f[0] + ", found", x, due);
        }
    }

    private static AddressNamer refused(int[] change) {
        AddressNamer x = new AddressNamer();
        Due.put(x, Dwarf.with(FILE, change[0], change[1]));
        Due.is("load()", x.load(), AddressNamer.NONE);
        return x;
    }
}
