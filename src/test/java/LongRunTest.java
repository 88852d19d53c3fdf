import com.sun.management.ThreadMXBean;
import java.lang.management.ManagementFactory;

/** "An object is used for at most 512 calls after it has been made": to the last one it answers as at first. */
public final class LongRunTest {
    private static final int CALLS = 512;
    private static final int TAPE = 8000;
    /** Each round makes 16 calls; an object has 16 bytes at least, so that one a round is too many. */
    private static final int ROUNDS = 20;
    private static final long BYTES_MOST = 200;

    public static void main(String[] args) {
        fullTapeToTheLastCall();
        takenAgainAndAgain();
        takenAndRefusedInTurn();
        foundToTheLastCall();
        objectsSideBySide();
        callsMakeNothing();
        Due.finish("LongRunTest");
    }

    /** The sample with a section that nobody asks for, so that it has just so many bytes as the tape. */
    private static byte[] fullFile() {
        int bare = Sample.elf().add("rest", new Bytes()).build().length;
        Bytes rest = new Bytes().times(TAPE - bare, new Bytes().u8(165));
        return Sample.elf().add("rest", rest).build();
    }

    private static AddressNamer fed(byte[] file) {
        AddressNamer x = new AddressNamer();
        Due.put(x, file);
        return x;
    }

    /** How many calls fed() makes. */
    private static int callsOf(byte[] file) {
        return 2 + (file.length + 19) / 20;
    }

    private static void fullTapeToTheLastCall() {
        byte[] file = fullFile();
        Due.is("the file", file.length, TAPE);
        AddressNamer x = fed(file);
        int calls = callsOf(file);
        Due.is("402 calls", calls, 402);
        Due.is("one more", x.feed(0, 0, 0, 0, 0), -1);
        Due.is("load()", x.load(), Sample.ENTRIES);
        for (calls += 2; calls + 4 <= CALLS; calls += 4) {
            Due.is("find(1028)", x.find(1028), 3);
            Due.is("frame(0, 2)", x.frame(0, 2), 20);
            Due.is("name(0, 3)", x.name(0, 3), 'f');
            Due.is("count(0)", x.count(0), TAPE);
        }
    }

    private static void takenAgainAndAgain() {
        byte[] file = Sample.elf().build();
        AddressNamer x = fed(file);
        for (int calls = callsOf(file); calls + 3 <= CALLS; calls += 3) {
            Due.is("load()", x.load(), Sample.ENTRIES);
            Due.is("symbol(0)", x.symbol(0), -1);
            Due.is("find(2005)", x.find(2005), 0);
        }
        Due.is("the last one's symbol", x.symbol(0), 1);
    }

    private static void takenAndRefusedInTurn() {
        byte[] file = Sample.elf().build();
        AddressNamer x = fed(file);
        for (int calls = callsOf(file); calls + 6 <= CALLS; calls += 6) {
            Due.is("load()", x.load(), Sample.ENTRIES);
            Due.is("find(1028)", x.find(1028), 3);
            x.poke(6, 7);
            Due.is("load() of a wrong one", x.load(), -1);
            Due.is("frame(2, 0)", x.frame(2, 0), 2);
            x.poke(6, 1);
        }
    }

    private static void foundToTheLastCall() {
        byte[] file = Sample.elf().build();
        AddressNamer x = fed(file);
        x.load();
        int[] chains = {1, 1, 2, 2, 2, 3, 3, 2};
        int calls = callsOf(file) + 1;
        for (int k = 0; calls < CALLS; k++, calls++) {
            int at = new int[] {1000, 1009, 1010, 1020, 1025, 1027, 1034, 1035}[k % 8];
            Due.is("find(" + at + ")", x.find(at), chains[k % 8]);
        }
    }

    /** Calls of one object change no answer of another one. */
    private static void objectsSideBySide() {
        AddressNamer one = fed(Sample.elf().build());
        AddressNamer two = fed(new byte[] {127});
        Due.is("the first loads", one.load(), Sample.ENTRIES);
        Due.is("the second refuses", two.load(), -1);
        Due.is("the first's fault", one.fault(0), 0);
        Due.is("the second's fault", two.fault(0), 1);
        Due.is("the first finds", one.find(1028), 3);
        Due.is("the second doesn't", two.find(1028), 0);
        Due.is("the first's chain", one.frame(0, 0), 6);
        Due.is("the second's chain", two.frame(0, 0), -1);
        Due.is("the second's tape", two.end(0), true);
        Due.is("the first's tape", one.count(0), Sample.elf().build().length);
    }

    private static int askAll(AddressNamer x) {
        int sum = x.load() + x.fault(0) + x.find(1028) + x.frame(0, 4) + x.name(0, 0) + x.file(0, 0);
        sum += x.find(2005) + x.symbol(0) + x.name(-1, 0) + x.entry(4, 6) + x.row(0, 1) + x.count(4);
        return sum + (int) x.rowAt(0) + (x.holds(2, 1000) ? 1 : 0) + (x.poke(6, 1) ? 1 : 0);
    }

    /** All calls of a run live in one room: what each of them made would be counted 512 times. */
    private static void callsMakeNothing() {
        ThreadMXBean meter = (ThreadMXBean) ManagementFactory.getThreadMXBean();
        AddressNamer x = fed(Sample.elf().build());
        int first = askAll(x);
        meter.getCurrentThreadAllocatedBytes();
        int others = 0;
        long before = meter.getCurrentThreadAllocatedBytes();
        for (int i = 0; i < ROUNDS; i++) {
            others += askAll(x) == first ? 0 : 1;
        }
        long made = meter.getCurrentThreadAllocatedBytes() - before;
        Due.is("rounds with other answers", others, 0);
        Due.is("bytes made: " + made, made <= BYTES_MOST, true);
    }
}
