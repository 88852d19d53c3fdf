/** Promises 1 to 4, and what count() and fault() tell ahead of any file. */
public final class TapeTest {
    public static void main(String[] args) {
        newObject();
        feeding();
        fullTape();
        ending();
        poking();
        Due.finish("TapeTest");
    }

    private static void newObject() {
        AddressNamer x = new AddressNamer();
        for (int what = 0; what <= 7; what++) {
            Due.is("new count(" + what + ")", x.count(what), 0);
        }
        Due.is("new count(8)", x.count(8), -1);
        Due.is("new count(-1)", x.count(-1), -1);
        Due.is("new fault(0)", x.fault(0), 0);
        Due.is("new fault(1)", x.fault(1), -1);
        Due.is("new fault(2)", x.fault(2), -1);
        Due.is("new fault(-1)", x.fault(-1), -1);
        Due.is("new entry", x.entry(0, 0), -1);
        Due.is("new holds", x.holds(0, 0), false);
        Due.is("new row", x.row(0, 0), -1);
        Due.is("new rowAt", x.rowAt(0), -1);
        Due.is("new frame", x.frame(0, 0), -1);
        Due.is("new name", x.name(0, 0), -1);
        Due.is("new name of a symbol", x.name(-1, 0), -1);
        Due.is("new file", x.file(0, 0), -1);
        Due.is("new symbol", x.symbol(0), -1);
        Due.is("new find", x.find(0), 0);
        Due.is("new find, frame", x.frame(0, 0), -1);
        Due.is("new find, symbol", x.symbol(0), -1);
        Due.is("NONE", AddressNamer.NONE, -1);
    }

    /** What stands on the tape shows in the first byte that is refused. */
    private static void feeding() {
        int[][] numbers = {
            {0x7e454c46, 0x02010100, 0}, {0x7f444c46, 0x02010100, 1}, {0x7f454d46, 0x02010100, 2},
            {0x7f454c47, 0x02010100, 3}, {0x7f454c46, 0x82010100, 4}, {0x7f454c46, 0x02020100, 5},
            {0x7f454c46, 0x02010000, 6}};
        for (int[] n : numbers) {
            AddressNamer x = new AddressNamer();
            Due.is("feed", x.feed(n[0], n[1], 0, 0, 0), 20);
            Due.is("count(0)", x.count(0), 20);
            Due.is("load()", x.load(), -1);
            Due.is("fault(0)", x.fault(0), 2);
            Due.is("fault(1)", x.fault(1), n[2]);
        }
        AddressNamer x = new AddressNamer();
        x.feed(0x7f454c46, 0x02010100, -1, -1, -1);
        x.load();
        Due.is("head alone, fault(0)", x.fault(0), 1);
        Due.is("head alone, fault(1)", x.fault(1), 0);
        Due.is("fault(2)", x.fault(2), -1);
        Due.is("fault(-1)", x.fault(-1), -1);
    }

    private static void fullTape() {
        AddressNamer x = new AddressNamer();
        for (int i = 1; i <= 400; i++) {
            Due.is("feed " + i, x.feed(i, i, i, i, i), 20 * i);
        }
        Due.is("feed 401", x.feed(1, 2, 3, 4, 5), -1);
        Due.is("count(0)", x.count(0), 8000);
        Due.is("poke(7999)", x.poke(7999, 1), true);
        Due.is("poke(8000)", x.poke(8000, 1), false);
        Due.is("end(7981)", x.end(7981), true);
        Due.is("feed behind 7981", x.feed(1, 2, 3, 4, 5), -1);
        Due.is("count(0)", x.count(0), 7981);
        Due.is("end(7980)", x.end(7980), true);
        Due.is("feed behind 7980", x.feed(1, 2, 3, 4, 5), 8000);
        Due.is("load() of a full tape", x.load(), -1);
        Due.is("fault(1)", x.fault(1), 0);
    }

    private static void ending() {
        AddressNamer x = new AddressNamer();
        Due.is("end(0) of none", x.end(0), true);
        Due.is("end(1) of none", x.end(1), false);
        x.feed(1, 2, 3, 4, 5);
        Due.is("end(21)", x.end(21), false);
        Due.is("end(-1)", x.end(-1), false);
        Due.is("end(least)", x.end(Integer.MIN_VALUE), false);
        Due.is("count(0)", x.count(0), 20);
        Due.is("end(20)", x.end(20), true);
        Due.is("end(7)", x.end(7), true);
        Due.is("count(0)", x.count(0), 7);
        Due.is("end(8)", x.end(8), false);
        Due.is("feed", x.feed(1, 2, 3, 4, 5), 27);
        AddressNamer y = new AddressNamer();
        y.feed(0x7f454c46, 0, 0, 0, 0);
        y.end(4);
        y.feed(0x02010900, 0, 0, 0, 0);
        y.load();
        Due.is("a byte behind end()", y.fault(1), 6);
    }

    private static void poking() {
        AddressNamer x = new AddressNamer();
        Due.is("poke(0) of none", x.poke(0, 1), false);
        x.feed(0, 0, 0, 0, 0);
        Due.is("poke(-1)", x.poke(-1, 1), false);
        Due.is("poke(20)", x.poke(20, 1), false);
        Due.is("poke(greatest)", x.poke(Integer.MAX_VALUE, 1), false);
        Due.is("poke(0, 127 - 256)", x.poke(0, 127 - 256), true);
        Due.is("poke(1, 69 + 512)", x.poke(1, 69 + 512), true);
        Due.is("poke(2, 76)", x.poke(2, 76), true);
        x.load();
        Due.is("fault(1) behind pokes", x.fault(1), 3);
        Due.is("poke(19)", x.poke(19, 1), true);
        x.end(10);
        Due.is("poke(10) behind end(10)", x.poke(10, 1), false);
        Due.is("poke(9) behind end(10)", x.poke(9, 1), true);
    }
}
