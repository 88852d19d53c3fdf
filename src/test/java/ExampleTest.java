/** The example of README.md, line by line as it stands there, and what it tells of a sample. */
public final class ExampleTest {
    public static void main(String[] args) {
        AddressNamer x = new AddressNamer();
        Due.is("put", put(x, Sample.elf().build()), true);
        Due.is("load()", x.load(), Sample.ENTRIES);
        told(x, 1028, "leaf at a.c:20\nleaf at a.c:88\nmain at bb.c:77\n");
        told(x, 1000, "main at bb.c:10\n");
        told(x, 2005, "some + 5\n");
        told(x, 999, "nothing\n");
        Due.is("a file that is too long", put(x, new byte[8001]), false);
        Due.is("a file that just fits", put(x, new byte[8000]), true);
        Due.is("an empty file", put(x, new byte[0]), true);
        Due.finish("ExampleTest");
    }

    private static void told(AddressNamer x, long address, String due) {
        String got = tell(x, address);
        if (!got.equals(due)) {
            System.out.println(address + ": " + got);
        }
        Due.is("what is told of " + address, got.equals(due), true);
    }

    /** Puts a file on the tape, twenty bytes a call; false if it has more than 8000. */
    static boolean put(AddressNamer x, byte[] file) {
        x.end(0);
        for (int i = 0; i < file.length; i += 20) {
            int[] w = new int[5];
            for (int k = 0; k < 20 && i + k < file.length; k++) {
                w[k / 4] |= (file[i + k] & 255) << (24 - 8 * (k % 4));
            }
            if (x.feed(w[0], w[1], w[2], w[3], w[4]) == AddressNamer.NONE) {
                return false;
            }
        }
        return x.end(file.length);
    }

    /** Tells where an address is, the innermost function first. */
    static String tell(AddressNamer x, long address) {
        StringBuilder s = new StringBuilder();
        int length = x.find(address);
        for (int i = 0; i < length; i++) {
            int signs = x.frame(i, 3);
            for (int k = 0; k < signs; k++) {
                s.append((char) x.name(i, k));
            }
            s.append(" at ");
            int fileSigns = x.frame(i, 4);
            for (int k = 0; k < fileSigns; k++) {
                s.append((char) x.file(i, k));
            }
            s.append(':').append(x.frame(i, 2)).append('\n');
        }
        if (length == 0) {
            int signs = x.symbol(1);
            for (int k = 0; k < signs; k++) {
                s.append((char) x.name(AddressNamer.NONE, k));
            }
            s.append(signs == AddressNamer.NONE ? "nothing\n" : " + " + x.symbol(2) + "\n");
        }
        return s.toString();
    }
}
