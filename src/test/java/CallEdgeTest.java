/** The promises 1 to 16, sentence by sentence: each call at the boundaries of its arguments. */
public final class CallEdgeTest {
    private static final int NONE = AddressNamer.NONE;
    private static final int LEAST = Integer.MIN_VALUE;
    private static final int MOST = Integer.MAX_VALUE;

    public static void main(String[] args) {
        constant();
        newObject();
        feedTellsHowMany();
        feedHasTheHighestByteFirst();
        feedOverTheTape();
        endOfTheTape();
        endCutsWhatIsBehind();
        pokeOfAByte();
        pokeTakesTheLowestByte();
        loadTellsEntries();
        theTapeStays();
        faultOfTheLatestLoad();
        entryOfNone();
        tagsOf32Bits();
        holdsOfNone();
        rowOfNone();
        findOfNone();
        findIsOfTheLatest();
        frameOfNone();
        nameOfNone();
        nameOfTheSymbol();
        fileOfNone();
        signsAtTheBeginOfTheFile();
        symbolOfNone();
        countOfOthers();
        Due.finish("CallEdgeTest");
    }

    private static AddressNamer sample() {
        return Due.taken("sample", Sample.elf().build(), Sample.ENTRIES);
    }

    /** "NONE = -1". */
    private static void constant() {
        Due.is("NONE", AddressNamer.NONE, -1);
    }

    /** Promise 1: "No FILE was taken: no UNITS, ENTRIES, SYMBOLS." */
    private static void newObject() {
        AddressNamer x = new AddressNamer();
        for (int what = 0; what <= 7; what++) {
            Due.is("count(" + what + ")", x.count(what), 0);
        }
        Due.is("entry(0, 0)", x.entry(0, 0), NONE);
        Due.is("holds(0, 0)", x.holds(0, 0), false);
        Due.is("row(0, 0)", x.row(0, 0), NONE);
        Due.is("rowAt(0)", x.rowAt(0), NONE);
        Due.is("find(0)", x.find(0), 0);
        Due.is("symbol(0)", x.symbol(0), NONE);
        Due.is("poke(0, 0)", x.poke(0, 0), false);
        Due.is("end(0)", x.end(0), true);
        Due.is("load()", x.load(), NONE);
        Due.is("another object has its own tape", new AddressNamer().count(0), 0);
    }

    /** Promise 2: "Twenty bytes come behind those on the TAPE: how many there are". */
    private static void feedTellsHowMany() {
        AddressNamer x = new AddressNamer();
        Due.is("the first", x.feed(0, 0, 0, 0, 0), 20);
        Due.is("the second", x.feed(-1, LEAST, MOST, 1, 0), 40);
        x.end(7);
        Due.is("behind 7", x.feed(0, 0, 0, 0, 0), 27);
        Due.is("count(0)", x.count(0), 27);
    }

    /** "of each number the highest first": the names of two sections show forty bytes, one by one. */
    private static void feedHasTheHighestByteFirst() {
        byte[] signs = new byte[40];
        for (int i = 0; i < 40; i++) {
            signs[i] = (byte) (201 + i);
        }
        String text = new String(signs, java.nio.charset.StandardCharsets.ISO_8859_1);
        Bytes rows = Dwarf.symbol(0, 2, 1, 5, 5);
        AddressNamer x = Due.taken("signs", new ElfFile().add(".strtab", new Bytes().text(text))
                .add(".symtab", rows).build(), 0);
        x.find(5);
        for (int k = 0; k < 40; k++) {
            Due.is("sign " + k, x.name(NONE, k), 201 + k);
        }
    }

    /** "NONE when there would be more than 8000". */
    private static void feedOverTheTape() {
        for (int size = 7979; size <= 7982; size++) {
            AddressNamer x = new AddressNamer();
            for (int i = 0; i < 400; i++) {
                x.feed(0, 0, 0, 0, 0);
            }
            x.end(size);
            Due.is("feed behind " + size, x.feed(1, 1, 1, 1, 1), size > 7980 ? NONE : size + 20);
            Due.is("count(0)", x.count(0), size > 7980 ? size : size + 20);
        }
        AddressNamer x = new AddressNamer();
        for (int i = 1; i <= 400; i++) {
            Due.is("feed " + i, x.feed(0, 0, 0, 0, 0), 20 * i);
        }
        Due.is("feed 401", x.feed(0, 0, 0, 0, 0), NONE);
        Due.is("still full", x.count(0), 8000);
    }

    /** Promise 3: "true; false when it has not so many, or n is below 0". */
    private static void endOfTheTape() {
        AddressNamer x = new AddressNamer();
        int[] refused = {1, -1, MOST, LEAST};
        for (int n : refused) {
            Due.is("end(" + n + ") of none", x.end(n), false);
        }
        x.feed(0, 0, 0, 0, 0);
        int[] outside = {21, 22, -1, -20, MOST, LEAST};
        for (int n : outside) {
            Due.is("end(" + n + ")", x.end(n), false);
            Due.is("count(0)", x.count(0), 20);
        }
        int[] inside = {20, 19, 1, 0};
        for (int n : inside) {
            Due.is("end(" + n + ")", x.end(n), true);
            Due.is("count(0)", x.count(0), n);
            Due.is("end(" + (n + 1) + ")", x.end(n + 1), false);
        }
    }

    /** "The TAPE has its first n bytes alone": the next ones come just behind them. */
    private static void endCutsWhatIsBehind() {
        AddressNamer x = new AddressNamer();
        x.feed(0x7f454c46, 0x02010300, 0, 0, 0);
        x.load();
        Due.is("the seventh byte is wrong", x.fault(1), 6);
        x.end(6);
        x.load();
        Due.is("it is gone", x.fault(0), 1);
        x.feed(0x01000000, 0, 0, 0, 0);
        x.load();
        Due.is("another one is in its place", x.fault(0), 1);
        x.end(6);
        x.feed(0x04000000, 0, 0, 0, 0);
        x.load();
        Due.is("a wrong one", x.fault(1), 6);
    }

    /** Promise 4: "true; false if there is none such". */
    private static void pokeOfAByte() {
        AddressNamer x = new AddressNamer();
        x.feed(0, 0, 0, 0, 0);
        x.end(10);
        int[] outside = {-1, 10, 11, 19, 20, 8000, MOST, LEAST};
        for (int i : outside) {
            Due.is("poke(" + i + ")", x.poke(i, 1), false);
        }
        int[] inside = {0, 1, 9};
        for (int i : inside) {
            Due.is("poke(" + i + ")", x.poke(i, 1), true);
        }
        Due.is("count(0)", x.count(0), 10);
    }

    /** "Byte i of the TAPE becomes v modulo 256". */
    private static void pokeTakesTheLowestByte() {
        int[] values = {0, 1, 127, 128, 254, 255, 256, 257, 511, -1, -2, -128, -129, -255, -256, -257, MOST, LEAST};
        ElfFile elf = new ElfFile().add(".strtab", new Bytes().raw("x").text("")).add(".symtab",
                Dwarf.symbol(0, 2, 1, 5, 5));
        byte[] file = elf.build();
        for (int v : values) {
            AddressNamer x = new AddressNamer();
            Due.put(x, file);
            x.poke(elf.placeOf(".strtab"), v);
            x.load();
            x.find(5);
            int due = Math.floorMod(v, 256);
            Due.is("sign by " + v, x.name(NONE, 0), due == 0 ? NONE : due);
        }
    }

    /** Promise 5: "how many ENTRIES it has; NONE with a FAULT". */
    private static void loadTellsEntries() {
        Bytes codes = new Bytes().add(Dwarf.code(1, 17, 1)).add(Dwarf.code(2, 46, 0)).u8(0);
        Due.taken("none", new ElfFile().build(), 0);
        for (int more = 0; more <= 2; more++) {
            Bytes e = new Bytes().u8(1).times(more, new Bytes().u8(2)).u8(0);
            Due.taken("some", Dwarf.file(codes, e).build(), 1 + more);
        }
        Due.refused("a fault", new byte[0], 1, 0);
    }

    /** "The TAPE (which stays)": it can be loaded again, and again behind a fault. */
    private static void theTapeStays() {
        AddressNamer x = sample();
        int size = x.count(0);
        Due.is("again", x.load(), Sample.ENTRIES);
        Due.is("its size", x.count(0), size);
        x.poke(0, 1);
        Due.is("refused", x.load(), NONE);
        Due.is("its size", x.count(0), size);
        Due.is("refused again", x.load(), NONE);
        x.poke(0, 127);
        Due.is("taken again", x.load(), Sample.ENTRIES);
    }

    /** Promise 6: "Of the latest load(): 0 its FAULT (0 without), 1 the PLACE (NONE without). NONE for others". */
    private static void faultOfTheLatestLoad() {
        AddressNamer x = new AddressNamer();
        faults("ahead of any", x, 0, NONE);
        x.feed(0x7f000000, 0, 0, 0, 0);
        faults("nothing was loaded", x, 0, NONE);
        x.load();
        faults("refused", x, 2, 1);
        x.poke(1, 69);
        x.end(2);
        x.find(5);
        x.end(-1);
        faults("no load since", x, 2, 1);
        x.load();
        faults("refused with another one", x, 1, 0);
        Due.put(x, new ElfFile().build());
        faults("not loaded yet", x, 1, 0);
        x.load();
        faults("taken", x, 0, NONE);
        x.poke(60, 0);
        x.load();
        faults("refused behind it", x, 2, 60);
    }

    private static void faults(String what, AddressNamer x, int fault, int place) {
        Due.is(what + ": fault(0)", x.fault(0), fault);
        Due.is(what + ": fault(1)", x.fault(1), place);
        int[] others = {-1, 2, MOST, LEAST};
        for (int o : others) {
            Due.is(what + ": fault(" + o + ")", x.fault(o), NONE);
        }
    }

    /** Promise 7: "NONE for others, or if there is none such". */
    private static void entryOfNone() {
        AddressNamer x = sample();
        int[] entries = {-1, Sample.ENTRIES, Sample.ENTRIES + 1, 399, 400, MOST, LEAST};
        for (int e : entries) {
            for (int what = -1; what <= 9; what++) {
                Due.is("entry(" + e + ", " + what + ")", x.entry(e, what), NONE);
            }
        }
        int[] others = {-1, 9, 10, MOST, LEAST};
        for (int what : others) {
            Due.is("entry(0, " + what + ")", x.entry(0, what), NONE);
            Due.is("entry(last, " + what + ")", x.entry(Sample.ENTRIES - 1, what), NONE);
        }
        Due.is("the first one's tag", x.entry(0, 0), 17);
        Due.is("the first one's parent", x.entry(0, 1), NONE);
        Due.is("the first one's origin", x.entry(0, 3), NONE);
        Due.is("the last one's tag", x.entry(Sample.ENTRIES - 1, 0), 29);
        Due.is("the last one's unit", x.entry(Sample.ENTRIES - 1, 2), 1);
        Due.is("the last one's name", x.entry(Sample.ENTRIES - 1, 6), NONE);
        Due.is("the last one's file", x.entry(Sample.ENTRIES - 1, 7), 0);
        Due.is("the last one's line", x.entry(Sample.ENTRIES - 1, 8), NONE);
    }

    /** "0 its tag (32 bits)". */
    private static void tagsOf32Bits() {
        long[] tags = {0, 1, 17, MOST, 1L << 31, (1L << 32) - 1, 1L << 32, (1L << 32) + 17, -1, Long.MIN_VALUE};
        for (long tag : tags) {
            Bytes codes = new Bytes().add(Dwarf.code(1, tag, 0)).u8(0);
            AddressNamer x = Due.taken("a tag", Dwarf.file(codes, new Bytes().u8(1)).build(), 1);
            Due.is("tag " + tag, x.entry(0, 0), (int) tag);
        }
    }

    /** Promise 8: "false if there is none such". */
    private static void holdsOfNone() {
        AddressNamer x = sample();
        int[] entries = {-1, Sample.ENTRIES, 399, 400, MOST, LEAST};
        for (int e : entries) {
            Due.is("holds(" + e + ")", x.holds(e, 1000), false);
        }
        Due.is("holds(2, 1000)", x.holds(2, 1000), true);
        Due.is("holds(last, 3000)", x.holds(Sample.ENTRIES - 1, 3000), true);
        Due.is("one without ranges", x.holds(1, 1000), false);
        Due.is("no address", x.holds(2, -1000), false);
    }

    /** Promises 9 and 10: "NONE for others, or if there is none such". */
    private static void rowOfNone() {
        AddressNamer x = sample();
        Due.is("seven rows", x.count(6), 7);
        int[] rows = {-1, 7, 8, 599, 600, MOST, LEAST};
        for (int i : rows) {
            Due.is("rowAt(" + i + ")", x.rowAt(i), NONE);
            for (int what = -1; what <= 4; what++) {
                Due.is("row(" + i + ", " + what + ")", x.row(i, what), NONE);
            }
        }
        int[] others = {-1, 4, 5, MOST, LEAST};
        for (int what : others) {
            Due.is("row(0, " + what + ")", x.row(0, what), NONE);
            Due.is("row(6, " + what + ")", x.row(6, what), NONE);
        }
        Due.is("rowAt(0)", x.rowAt(0), 1000);
        Due.is("rowAt(6)", x.rowAt(6), 1130);
        Due.is("row(6, 0)", x.row(6, 0), 0);
        Due.is("row(6, 1)", x.row(6, 1), 1);
        Due.is("row(6, 2)", x.row(6, 2), 100);
        Due.is("row(6, 3)", x.row(6, 3), 1);
        Due.is("row(5, 3)", x.row(5, 3), 0);
    }

    /** Promise 11: "how many its CHAIN has; 0 if it has none". */
    private static void findOfNone() {
        AddressNamer x = sample();
        long[] none = {-1, Long.MIN_VALUE, 0, 999, 1140, Long.MAX_VALUE};
        for (long a : none) {
            Due.is("find(" + a + ")", x.find(a), 0);
        }
        Due.is("find(1000)", x.find(1000), 1);
        Due.is("find(1010)", x.find(1010), 2);
        Due.is("find(1027)", x.find(1027), 3);
    }

    private static void nothingFound(String what, AddressNamer x) {
        for (int k = 0; k <= 4; k++) {
            Due.is(what + ": frame(0, " + k + ")", x.frame(0, k), NONE);
            Due.is(what + ": symbol(" + k + ")", x.symbol(k), NONE);
        }
        Due.is(what + ": name(0, 0)", x.name(0, 0), NONE);
        Due.is(what + ": name(NONE, 0)", x.name(NONE, 0), NONE);
        Due.is(what + ": file(0, 0)", x.file(0, 0), NONE);
    }

    /** "(of the latest one; ahead of any, and behind a FILE that was taken, there is none.)". */
    private static void findIsOfTheLatest() {
        AddressNamer x = new AddressNamer();
        nothingFound("a new object", x);
        x.find(1030);
        nothingFound("no file", x);
        x = sample();
        nothingFound("ahead of any", x);
        x.find(1030);
        Due.is("found", x.frame(2, 0), 2);
        x.load();
        nothingFound("behind a file that was taken", x);
        x.find(2005);
        Due.is("found a symbol", x.symbol(0), 1);
        x.load();
        nothingFound("a symbol behind a file that was taken", x);
        x.find(1030);
        x.find(Long.MAX_VALUE);
        nothingFound("the latest one has none", x);
        x.find(1030);
        x.poke(60, 0);
        x.load();
        Due.is("behind a file that was refused", x.frame(2, 0), 2);
        Due.is("its name", x.name(2, 0), 'm');
        x.find(2005);
        x.load();
        Due.is("a symbol behind a file that was refused", x.symbol(0), 1);
    }

    /** Promise 12: "NONE for others, or if there is none such". */
    private static void frameOfNone() {
        AddressNamer x = sample();
        x.find(1027);
        int[] frames = {-1, 3, 4, 23, 24, MOST, LEAST};
        for (int i : frames) {
            for (int what = -1; what <= 5; what++) {
                Due.is("frame(" + i + ", " + what + ")", x.frame(i, what), NONE);
            }
        }
        int[] others = {-1, 5, 6, MOST, LEAST};
        for (int what : others) {
            for (int i = 0; i < 3; i++) {
                Due.is("frame(" + i + ", " + what + ")", x.frame(i, what), NONE);
            }
        }
        int[][] due = {{6, 0, 20, 4, 3}, {4, 0, 88, 4, 3}, {2, 1, 77, 4, 4}};
        for (int i = 0; i < 3; i++) {
            for (int what = 0; what < 5; what++) {
                Due.is("frame(" + i + ", " + what + ")", x.frame(i, what), due[i][what]);
            }
        }
        x.find(1050);
        Due.is("no name", x.frame(0, 3), NONE);
        Due.is("no such file", x.frame(1, 4), NONE);
    }

    /** Promise 13: "Sign k of the NAME of the i-th of the CHAIN; NONE if there is none such". */
    private static void nameOfNone() {
        AddressNamer x = sample();
        x.find(1027);
        int[] frames = {NONE, -2, 3, 24, MOST, LEAST};
        for (int i : frames) {
            Due.is("name(" + i + ", 0)", x.name(i, 0), NONE);
        }
        int[] signs = {-1, 4, 5, MOST, LEAST};
        for (int k : signs) {
            for (int i = 0; i < 3; i++) {
                Due.is("name(" + i + ", " + k + ")", x.name(i, k), NONE);
            }
        }
        Due.text("the innermost", k -> x.name(0, k), "leaf");
        Due.text("the outermost", k -> x.name(2, k), "main");
        x.find(1050);
        Due.is("one without a name", x.name(0, 0), NONE);
        Due.text("the one behind it", k -> x.name(1, k), "main");
    }

    /** "of the SYMBOL, if there is no CHAIN, for i NONE". */
    private static void nameOfTheSymbol() {
        AddressNamer x = sample();
        x.find(2005);
        Due.text("of the symbol", k -> x.name(NONE, k), "some");
        int[] signs = {-1, 4, 5, MOST, LEAST};
        for (int k : signs) {
            Due.is("name(NONE, " + k + ")", x.name(NONE, k), NONE);
        }
        int[] frames = {-2, 0, 1, MOST, LEAST};
        for (int i : frames) {
            Due.is("name(" + i + ", 0)", x.name(i, 0), NONE);
        }
        x.find(1000);
        Due.is("a symbol has it, but there is a chain", x.name(NONE, 0), NONE);
        x.find(6000);
        Due.is("no symbol has it", x.name(NONE, 0), NONE);
    }

    /** Promise 14: "Sign k of the STRING of the FILE of the i-th; NONE if there is none such". */
    private static void fileOfNone() {
        AddressNamer x = sample();
        x.find(1027);
        int[] frames = {-1, -2, 3, 24, MOST, LEAST};
        for (int i : frames) {
            Due.is("file(" + i + ", 0)", x.file(i, 0), NONE);
        }
        Due.text("of the innermost", k -> x.file(0, k), "a.c");
        Due.text("of the outermost", k -> x.file(2, k), "bb.c");
        int[] signs = {-1, 4, MOST, LEAST};
        for (int k : signs) {
            for (int i = 0; i < 3; i++) {
                Due.is("file(" + i + ", " + k + ")", x.file(i, k), NONE);
            }
        }
        Due.is("just behind the shorter one", x.file(0, 3), NONE);
        Due.is("the last of the longer one", x.file(2, 3), 'c');
        x.find(1050);
        Due.is("no such file", x.file(1, 0), NONE);
        x.find(2005);
        Due.is("no chain", x.file(0, 0), NONE);
        Due.is("nor for NONE", x.file(NONE, 0), NONE);
    }

    /** A string may begin with the file's first byte: a place of 0 is one. */
    private static void signsAtTheBeginOfTheFile() {
        ElfFile elf = new ElfFile().add(".strtab", new Bytes()).add(".symtab", Dwarf.symbol(0, 2, 1, 5, 5));
        byte[] file = elf.build();
        byte[] first = Dwarf.with(Dwarf.with(file, elf.rowOf(1) + 24, new Bytes().u64(0).u64(8)), 7, 0);
        AddressNamer x = Due.taken("a string at 0", first, 0);
        x.find(5);
        Due.is("its signs", x.symbol(1), 7);
        Due.text("its signs", k -> x.name(NONE, k), "\u007fELF\u0002\u0001\u0001");
    }

    /** Promise 15: "NONE for others, or if there is none such". */
    private static void symbolOfNone() {
        AddressNamer x = sample();
        x.find(2005);
        int[] due = {1, 4, 5};
        for (int what = 0; what < 3; what++) {
            Due.is("symbol(" + what + ")", x.symbol(what), due[what]);
        }
        int[] others = {-1, 3, 4, MOST, LEAST};
        for (int what : others) {
            Due.is("symbol(" + what + ")", x.symbol(what), NONE);
        }
        long[] none = {999 - 1000, 6000, 1000};
        for (long a : none) {
            x.find(a);
            for (int what = -1; what <= 3; what++) {
                Due.is("symbol(" + what + ") of " + a, x.symbol(what), NONE);
            }
        }
    }

    /** Promise 16: "NONE for others". */
    private static void countOfOthers() {
        AddressNamer x = sample();
        int[] others = {-1, 8, 9, MOST, LEAST};
        for (int what : others) {
            Due.is("count(" + what + ")", x.count(what), NONE);
        }
        int[] due = {Sample.elf().build().length, 9, 2, 2, Sample.ENTRIES, 10, 7, 2};
        for (int what = 0; what < 8; what++) {
            Due.is("count(" + what + ")", x.count(what), due[what]);
        }
        x.end(5);
        Due.is("the tape's bytes", x.count(0), 5);
        x.load();
        for (int what = 1; what < 8; what++) {
            Due.is("count(" + what + ") behind a refused file", x.count(what), due[what]);
        }
    }
}
