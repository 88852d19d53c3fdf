import java.util.Random;

/** No call throws or hangs, whatever the tape holds; faults are among the four, at a place of the file. */
public final class HardyTest {
    private static final int[] NUMBERS = {0, 1, 2, -1, -2, 5, 12, 399, 400, 600, 8000, Integer.MAX_VALUE,
        Integer.MIN_VALUE};

    public static void main(String[] args) {
        byte[] file = Sample.elf().build();
        eachByte(file);
        eachLength(file);
        manyBytes(file);
        Due.finish("HardyTest");
    }

    private static void loaded(AddressNamer x, String what) {
        int answer = x.load();
        int size = x.count(0);
        int fault = x.fault(0);
        int place = x.fault(1);
        if (answer == AddressNamer.NONE) {
            Due.is(what + ": a fault of four", fault >= 1 && fault <= 4, true);
            Due.is(what + ": a place of the file", place >= 0 && place <= size, true);
        } else {
            Due.is(what + ": no fault", fault, 0);
            Due.is(what + ": no place", place, AddressNamer.NONE);
            Due.is(what + ": so many entries", x.count(4), answer);
        }
    }

    private static void askAll(AddressNamer x) {
        for (int a : NUMBERS) {
            for (int b = -1; b < 10; b++) {
                x.entry(a, b);
                x.row(a, b);
                x.frame(a, b);
                x.name(a, b);
                x.file(b, a);
            }
            x.rowAt(a);
            x.holds(a, 1030);
            x.symbol(a);
        }
    }

    private static void eachByte(byte[] file) {
        for (int i = 0; i < file.length; i++) {
            AddressNamer x = new AddressNamer();
            Due.put(x, file);
            x.load();
            for (int v : new int[] {0, 1, 127, 128, 255, file[i] + 1, file[i] - 1}) {
                x.poke(i, v);
                loaded(x, "byte " + i + " as " + v);
                x.find(1030);
                x.frame(0, 4);
                x.name(1, 0);
            }
        }
    }

    private static void eachLength(byte[] file) {
        for (int n = file.length - 1; n >= 0; n--) {
            AddressNamer x = new AddressNamer();
            Due.put(x, file);
            x.end(n);
            loaded(x, "length " + n);
        }
    }

    private static void manyBytes(byte[] file) {
        Random random = new Random(7);
        for (int run = 0; run < 3000; run++) {
            AddressNamer x = new AddressNamer();
            Due.put(x, file);
            int body = file.length - 64 * 9;
            int pokes = 1 + random.nextInt(6);
            for (int i = 0; i < pokes; i++) {
                x.poke(64 + random.nextInt(body - 64), random.nextInt(256));
            }
            loaded(x, "run " + run);
            x.find(1000 + random.nextInt(150));
            if (run % 100 == 0) {
                askAll(x);
            }
        }
    }
}
