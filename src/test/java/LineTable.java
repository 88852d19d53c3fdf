/** A table of lines, whose head tests may change field by field. */
final class LineTable {
    int version = 5;
    int addressSize = 8;
    int segment = 0;
    int headMore = 0;
    int least = 1;
    int operations = 1;
    int isStatement = 1;
    int base = -5;
    int range = 14;
    int opcodeBase = 13;
    int[] operands = {0, 1, 1, 1, 1, 0, 0, 0, 1, 0, 0, 1};
    Bytes directoryKinds = new Bytes().u8(1).uleb(1, 8);
    Bytes directories = new Bytes().uleb(1).text("/d");
    Bytes fileKinds = new Bytes().u8(2).uleb(1, 8, 2, 15);
    Bytes files = new Bytes().uleb(2).text("a.c").uleb(0).text("bb.c").uleb(0);
    Bytes program = new Bytes();

    LineTable program(Bytes p) {
        program = p;
        return this;
    }

    Bytes build() {
        Bytes head = new Bytes().u8(least, operations, isStatement, base, range, opcodeBase);
        for (int n : operands) {
            head.u8(n);
        }
        head.add(directoryKinds).add(directories).add(fileKinds).add(files);
        Bytes all = new Bytes().u16(version).u8(addressSize, segment).u32(head.size() + headMore);
        all.add(head).add(program);
        return new Bytes().u32(all.size()).add(all);
    }

    /** Where the program begins, from the table's begin on. */
    int programPlace() {
        return build().size() - program.size();
    }

    /** Where the kinds of directories begin, from the table's begin on. */
    int kindsPlace() {
        return 18 + operands.length;
    }

    static Bytes setAddress(long address) {
        return new Bytes().u8(0, 9, 2).u64(address);
    }

    static Bytes endSequence() {
        return new Bytes().u8(0, 1, 1);
    }
}
