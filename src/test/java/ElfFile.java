import java.util.ArrayList;
import java.util.List;

/**
 * Lays a file out: the head, the sections in the order in which they were added, their names, the
 * table of sections. Row 0 is an empty one of type 0, the last one has the names.
 */
final class ElfFile {
    static final int PROGBITS = 1;
    /** Stands wherever the document says nothing of the bytes. */
    private static final long NOISE = 0x9a9b9c9d9e9f9a9bL;

    private final List<String> names = new ArrayList<>();
    private final List<Integer> types = new ArrayList<>();
    private final List<Bytes> contents = new ArrayList<>();
    private final List<Integer> places = new ArrayList<>();
    private int table;

    ElfFile() {
        add("", 0, new Bytes());
    }

    ElfFile add(String name, int type, Bytes content) {
        names.add(name);
        types.add(type);
        contents.add(content);
        return this;
    }

    ElfFile add(String name, Bytes content) {
        return add(name, PROGBITS, content);
    }

    /** Row 0 becomes a section of its own, ahead of all others. */
    ElfFile first(String name, Bytes content) {
        names.set(0, name);
        types.set(0, PROGBITS);
        contents.set(0, content);
        return this;
    }

    void retype(String name, int type) {
        types.set(names.indexOf(name), type);
    }

    byte[] build() {
        int sections = names.size() + 1;
        Bytes texts = new Bytes();
        List<Integer> nameOffsets = new ArrayList<>();
        for (String n : names) {
            nameOffsets.add(texts.size());
            texts.text(n);
        }
        nameOffsets.add(texts.size());
        texts.text(".shstrtab");
        Bytes body = new Bytes();
        places.clear();
        for (Bytes c : contents) {
            places.add(64 + body.size());
            body.add(c);
        }
        places.add(64 + body.size());
        body.add(texts);
        table = 64 + body.size();
        for (int i = 0; i < sections; i++) {
            boolean last = i == sections - 1;
            body.u32(nameOffsets.get(i)).u32(last ? 3 : types.get(i)).u64(NOISE).u64(NOISE);
            body.u64(places.get(i)).u64(last ? texts.size() : contents.get(i).size());
            body.u64(NOISE).u64(NOISE).u64(NOISE);
        }
        Bytes head = new Bytes().u8(127, 69, 76, 70, 2, 1, 1, 9).u64(NOISE).u64(NOISE).u64(NOISE).u64(NOISE);
        head.u64(table).u64(NOISE).u16(NOISE).u16(64).u16(sections).u16(sections - 1);
        return head.add(body).toArray();
    }

    /** Where the section of a name begins, of the file that was built last. */
    int placeOf(String name) {
        return places.get(names.indexOf(name));
    }

    /** Where row i of the table of sections begins. */
    int rowOf(int i) {
        return table + 64 * i;
    }

    int table() {
        return table;
    }
}
