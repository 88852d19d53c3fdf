/** Files on both sides of a boundary: of two neighbours one is taken, the other one refused. */
final class Edge {
    /** Stands where a fault's number would: the file is taken. */
    static final int WELL = 0;

    private Edge() {
    }

    /** The fault's place is counted from a section's begin. */
    static void ask(String what, ElfFile elf, String section, int place, int fault) {
        byte[] file = elf.build();
        if (fault == WELL) {
            Due.taken(what, file);
        } else {
            Due.refused(what, file, fault, elf.placeOf(section) + place);
        }
    }

    static void abbreviations(String what, Bytes abbreviations, int place, int fault) {
        ask(what, Dwarf.file(abbreviations, new Bytes().u8(1)), ".debug_abbrev", place, fault);
    }

    /** The fault's place is counted from the first entry's begin. */
    static void entries(String what, Bytes abbreviations, Bytes entries, int place, int fault) {
        ask(what, Dwarf.file(abbreviations, entries), ".debug_info", Dwarf.INFO_ENTRIES + place, fault);
    }

    /** One entry, whose unit's LOW is given, with a list of ranges. */
    static ElfFile listed(long base, Bytes list) {
        Bytes codes = new Bytes().add(Dwarf.code(1, 17, 0, 17, 1, 85, 23)).u8(0);
        return Dwarf.file(codes, new Bytes().u8(1).u64(base).u32(0)).add(".debug_rnglists", list);
    }

    /** One entry with a table of lines. */
    static ElfFile lined(Bytes table) {
        Bytes codes = new Bytes().add(Dwarf.code(1, 17, 0, 16, 23)).u8(0);
        return Dwarf.file(codes, new Bytes().u8(1).u32(0)).add(".debug_line", table);
    }

    static void table(String what, Bytes table, int place, int fault) {
        ask(what, lined(table), ".debug_line", place, fault);
    }

    /** The fault's place is counted from the program's begin. */
    static void program(String what, LineTable table, int place, int fault) {
        table(what, table.build(), table.programPlace() + place, fault);
    }
}
