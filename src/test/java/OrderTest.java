import java.util.ArrayList;
import java.util.List;

/**
 * "What is read first is asked first, in the order of this page." Faults of all parts stand in a list in
 * that order; of each two of them in one file the earlier one is told.
 */
public final class OrderTest {
    private static final List<int[]> FAULTS = new ArrayList<>();
    private static final ElfFile ELF = elf();
    private static final byte[] FILE = ELF.build();

    public static void main(String[] args) {
        Due.taken("the file", FILE, 7);
        listHead();
        listSymbols();
        listUnits();
        listRanges();
        listLines();
        for (int i = 0; i < FAULTS.size(); i++) {
            refused(i, i);
            for (int j = i + 1; j < FAULTS.size(); j++) {
                refused(i, j);
            }
        }
        Due.finish("OrderTest");
    }

    private static Bytes unit(int low, int lines) {
        Bytes e = new Bytes().u8(1).u64(low).u64(low + 9).u32(lines);         // 22 bytes behind 12
        e.u8(2).u32(0);                                                         // at 33: ranges
        e.u8(3).u32(12).u8(0);                                                  // at 38: a reference
        return Dwarf.unit(e);
    }

    /** The first of two tables of codes; they begin at 0, 11 and 18. */
    private static Bytes codes() {
        return new Bytes().add(Dwarf.code(1, 17, 1, 17, 1, 18, 1, 16, 23)).add(Dwarf.code(2, 46, 0, 85, 23))
                .add(Dwarf.code(3, 46, 0, 49, 19)).u8(0);
    }

    private static LineTable lines() {
        return new LineTable().program(new Bytes().u8(1, 6).add(LineTable.endSequence()));
    }

    private static ElfFile elf() {
        LineTable t = lines();
        Bytes info = new Bytes().add(unit(100, 0)).add(unit(200, t.build().size()))
                .add(Dwarf.unit(codes().size(), new Bytes().u8(1)));
        return new ElfFile().add(".debug_abbrev", codes().add(Dwarf.code(1, 17, 0)).u8(0)).add(".debug_info", info)
                .add(".debug_rnglists", new Bytes().u8(4, 1, 2, 4, 3, 4, 0))
                .add(".debug_line", new Bytes().add(t.build()).add(t.build())).add(".strtab", new Bytes().text("s"))
                .add(".symtab", new Bytes().times(2, Dwarf.symbol(0, 2, 1, 5, 5)));
    }

    /** A byte that becomes another one, and the fault that this makes. */
    private static void fault(int place, int value, int fault, int where) {
        FAULTS.add(new int[] {place, value, fault, where});
    }

    private static void refused(int first, int second) {
        int[] a = FAULTS.get(first);
        int[] b = FAULTS.get(second);
        if (a[0] == b[0] && first != second) {
            return;
        }
        byte[] file = Dwarf.with(Dwarf.with(FILE, a[0], a[1]), b[0], b[1]);
        Due.refused("fault at " + a[3] + " ahead of " + b[3], file, a[2], a[3]);
    }

    private static void listHead() {
        for (int i = 0; i < 7; i++) {
            fault(i, 200, 2, i);
        }
        fault(59, 1, 2, 58);
        fault(61, 1, 4, 60);
        fault(63, 1, 3, 62);
        fault(47, 1, 1, 40);
        for (int i = 1; i < 8; i++) {
            fault(ELF.rowOf(i) + 31, 1, 1, ELF.rowOf(i));
        }
        for (int i = 0; i < 8; i++) {
            fault(ELF.rowOf(i) + 3, 1, 3, ELF.rowOf(i));
        }
    }

    private static void listSymbols() {
        int row = ELF.placeOf(".symtab");
        fault(row + 15, 128, 2, row);
        fault(row, 9, 3, row);
        fault(row + 24 + 23, 128, 2, row + 24);
        fault(row + 24 + 1, 1, 3, row + 24);
        fault(ELF.rowOf(6) + 32, 49, 1, row + 48);
    }

    private static void listUnits() {
        int codes = ELF.placeOf(".debug_abbrev");
        int info = ELF.placeOf(".debug_info");
        int[] begins = {info, info + unit(0, 0).size(), info + 2 * unit(0, 0).size()};
        int table = codes().size();
        for (int u = 0; u < 3; u++) {
            int at = begins[u];
            fault(at + 3, 255, 1, at);
            fault(at + 4, 4, 2, at + 4);
            fault(at + 6, 2, 2, at + 6);
            fault(at + 7, 4, 2, at + 7);
            fault(at + 9, 9, 3, at + 8);
            if (u == 0) {
                fault(codes + 2, 2, 2, codes + 2);
                fault(codes + 4, 2, 2, codes + 3);
                fault(codes + 11, 1, 2, codes + 11);
                fault(codes + 18, 2, 2, codes + 18);
            }
            if (u == 2) {
                fault(codes + table + 2, 2, 2, codes + table + 2);
            }
            fault(at + 12, 9, 3, at + 12);
            if (u < 2) {
                fault(at + 20, 128, 2, at + 13);
                fault(at + 28, 128, 2, at + 21);
                fault(at + 33, 9, 3, at + 33);
                fault(at + 38, 9, 3, at + 38);
                fault(at + 43, 1, 1, at + 43 + 1);
                fault(at + 39, 15, 3, at + 39);
            }
        }
    }

    private static void listRanges() {
        int info = ELF.placeOf(".debug_info");
        int list = ELF.placeOf(".debug_rnglists");
        int size = unit(0, 0).size();
        fault(info + 13, 120, 2, info + 12);
        fault(info + 35, 1, 3, info + 33);
        fault(list, 9, 2, list);
        fault(list + 1, 3, 2, list);
        fault(list + 3, 9, 2, list + 3);
        fault(list + 6, 9, 2, list + 6);
        fault(info + size + 13, 220, 2, info + size + 12);
        fault(info + size + 35, 1, 3, info + size + 33);
    }

    private static void listLines() {
        int info = ELF.placeOf(".debug_info");
        int size = unit(0, 0).size();
        int line = ELF.placeOf(".debug_line");
        LineTable t = lines();
        int[] begins = {line, line + t.build().size()};
        for (int u = 0; u < 2; u++) {
            int at = begins[u];
            fault(info + u * size + 31, 1, 3, info + u * size);
            fault(at + 3, 255, 1, at);
            fault(at + 4, 4, 2, at + 4);
            fault(at + 6, 4, 2, at + 6);
            fault(at + 7, 1, 2, at + 7);
            fault(at + 9, 1, 1, at + 8);
            for (int k : new int[] {13, 14, 17}) {
                fault(at + k, 200, 2, at + k);
            }
            for (int k = 18; k < 27; k++) {
                fault(at + k, 2, 2, at + k);
            }
            int kinds = at + t.kindsPlace();
            for (int k : new int[] {0, 1, 2, 7, 8, 9, 10, 11}) {
                fault(kinds + k, 3, 2, kinds + k);
            }
            fault(kinds + 12, 41, 4, kinds + 12);
            fault(kinds + 17, 9, 3, kinds + 13);
            fault(kinds + 23, 9, 3, kinds + 18);
            int program = at + t.programPlace();
            fault(at + 8, t.programPlace() - 12 + 1, 2, program);
            fault(program + 1, 13, 2, program + 1);
            fault(program + 3, 0, 2, program + 2);
            fault(program + 4, 9, 1, program + 5);
        }
    }
}
