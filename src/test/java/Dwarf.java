/** Parts of sections, as short as tests want them. */
final class Dwarf {
    private Dwarf() {
    }

    /** A code with its pairs, ended; the ender of the table is the caller's. */
    static Bytes code(long code, long tag, int children, long... pairs) {
        return new Bytes().uleb(code, tag).u8(children).uleb(pairs).u8(0, 0);
    }

    /** A unit whose abbreviations stand at an offset. */
    static Bytes unit(long abbreviations, Bytes entries) {
        return new Bytes().u32(8 + entries.size()).u16(5).u8(1, 8).u32(abbreviations).add(entries);
    }

    static Bytes unit(Bytes entries) {
        return unit(0, entries);
    }

    /** A file with one unit whose first entry begins at INFO_ENTRIES behind .debug_info's begin. */
    static ElfFile file(Bytes abbreviations, Bytes entries) {
        return new ElfFile().add(".debug_abbrev", abbreviations).add(".debug_info", unit(entries));
    }

    static final int INFO_ENTRIES = 12;

    static Bytes symbol(long name, int info, int section, long value, long size) {
        return new Bytes().u32(name).u8(info, 0x9a).u16(section).u64(value).u64(size);
    }

    static byte[] with(byte[] file, int place, int... values) {
        byte[] copy = file.clone();
        for (int i = 0; i < values.length; i++) {
            copy[place + i] = (byte) values[i];
        }
        return copy;
    }

    static byte[] with(byte[] file, int place, Bytes values) {
        byte[] copy = file.clone();
        System.arraycopy(values.toArray(), 0, copy, place, values.size());
        return copy;
    }
}
