/**
 * A file with a ULEB or SLEB wherever one may stand. One of them, told by its number in the order of
 * the sections, is written in more bytes than it needs.
 */
final class PaddedFile {
    static final int NO_PLACE = -1;

    private final int chosen;
    private final int bytes;
    private int places;
    private String section = ".debug_info";
    private int offset;
    private final ElfFile elf;

    PaddedFile(int chosen, int bytes) {
        this.chosen = chosen;
        this.bytes = bytes;
        elf = new ElfFile().add(".debug_abbrev", abbreviations()).add(".debug_info", Dwarf.unit(entries()))
                .add(".debug_rnglists", ranges()).add(".debug_line", lines());
    }

    int places() {
        return places;
    }

    String section() {
        return section;
    }

    int offset() {
        return offset;
    }

    ElfFile elf() {
        return elf;
    }

    private void number(Bytes to, String in, int base, long... values) {
        for (long v : values) {
            if (places == chosen) {
                section = in;
                offset = base + to.size();
                to.padded(v, bytes);
            } else {
                to.uleb(v);
            }
            places++;
        }
    }

    private Bytes abbreviations() {
        Bytes b = new Bytes();
        number(b, ".debug_abbrev", 0, 1, 17);
        b.u8(1);
        number(b, ".debug_abbrev", 0, 500, 33, 5, 85, 23, 16, 23, 0, 0, 2, 46);
        b.u8(0);
        number(b, ".debug_abbrev", 0, 500, 15, 501, 13, 502, 24, 0, 0, 0);
        return b;
    }

    private Bytes entries() {
        Bytes b = new Bytes();
        number(b, ".debug_info", 12, 1);
        b.u32(0).u32(0);
        number(b, ".debug_info", 12, 2, 7, 7, 2);
        b.u8(9, 9);
        number(b, ".debug_info", 12, 0);
        return b;
    }

    private Bytes ranges() {
        Bytes b = new Bytes().u8(4);
        number(b, ".debug_rnglists", 0, 5, 6);
        b.u8(7).u64(5);
        number(b, ".debug_rnglists", 0, 1);
        return b.u8(0);
    }

    private Bytes lines() {
        Bytes b = new Bytes().u8(1, 1, 1, -5, 14, 11).u8(0, 1, 1, 1, 1, 0, 0, 0, 1, 2).u8(1);
        number(b, ".debug_line", 12, 1, 8, 1);
        b.text("/d").u8(2);
        number(b, ".debug_line", 12, 1, 8, 2, 15, 1);
        b.text("a");
        number(b, ".debug_line", 12, 0);
        int head = b.size();
        for (int opcode = 2; opcode <= 5; opcode++) {
            number(b.u8(opcode), ".debug_line", 12, 3);
        }
        number(b.u8(10), ".debug_line", 12, 3, 3);
        number(b.u8(0), ".debug_line", 12, 1);
        b.u8(1);
        return new Bytes().u32(8 + b.size()).u16(5).u8(8, 0).u32(head).add(b);
    }
}
