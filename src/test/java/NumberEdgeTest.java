/** Part 1 of the terms, sentence by sentence: numbers, strings, addresses, and where things end. */
public final class NumberEdgeTest {
    private static final long MOST = Long.MAX_VALUE;
    private static final Bytes EIGHT_FULL = new Bytes().times(8, new Bytes().u8(255));
    private static final Bytes EIGHT_BARE = new Bytes().times(8, new Bytes().u8(128));

    public static void main(String[] args) {
        numbersHaveTheirLowestByteFirst();
        ulebEndsByOneBelow128();
        ulebLosesBitsAbove64();
        slebHasItsSignInBit6();
        slebLosesBitsAbove64();
        slebOfTheProgram();
        numbersHaveTenBytesAtMost();
        stringsEndByZero();
        addressesAreZeroOrMore();
        abbreviationsEndWithin();
        unitEndsWithin();
        rangesEndWithin();
        headOfLinesEndsWithin();
        programEndsWithin();
        Due.finish("NumberEdgeTest");
    }

    /** A number as HIGH above LOW, which is 0: the range shows all of its bits. */
    private static void high(String what, Bytes code, Bytes value, long due) {
        ElfFile elf = Dwarf.file(code, new Bytes().u8(1).u64(0).add(value));
        byte[] file = elf.build();
        if (due < 0) {
            Due.refused(what, file, 2, elf.placeOf(".debug_info") + 12);
            return;
        }
        AddressNamer x = Due.taken(what, file, 1);
        Due.is(what + ": a range", x.entry(0, 4), 1);
        Due.is(what + ": the last one below", x.holds(0, due - 1), due > 0);
        Due.is(what + ": itself", x.holds(0, due), false);
    }

    private static void byForm(int form, Bytes value, long due) {
        high("form " + form + " of " + due, new Bytes().add(Dwarf.code(1, 46, 0, 17, 1, 18, form)).u8(0), value, due);
    }

    /** "NUMBERS of 2, 4, 8 bytes have their lowest byte first." */
    private static void numbersHaveTheirLowestByteFirst() {
        byForm(11, new Bytes().u8(0x81), 0x81);
        byForm(5, new Bytes().u8(0x81, 0x82), 0x8281);
        byForm(6, new Bytes().u8(0x81, 0x82, 0x83, 0x84), 0x84838281L);
        byForm(7, new Bytes().u8(0x81, 0x82, 0x83, 0x84, 0x85, 0x86, 0x87, 0x78), 0x7887868584838281L);
        byForm(7, new Bytes().u8(0, 0, 0, 0, 0, 0, 0, 0x80), -1);
    }

    /** "ULEB: bytes, of each the lower seven bits, the lowest ones first, up to one below 128". */
    private static void ulebEndsByOneBelow128() {
        byForm(15, new Bytes().u8(0), 0);
        byForm(15, new Bytes().u8(1), 1);
        byForm(15, new Bytes().u8(126), 126);
        byForm(15, new Bytes().u8(127), 127);
        byForm(15, new Bytes().u8(128, 1), 128);
        byForm(15, new Bytes().u8(129, 1), 129);
        byForm(15, new Bytes().u8(128, 0), 0);
        byForm(15, new Bytes().u8(255, 0), 127);
        byForm(15, new Bytes().u8(255, 127), 16383);
        byForm(15, new Bytes().u8(128, 128, 1), 16384);
        byForm(15, new Bytes().u8(129, 130, 131, 132, 5), 1 + (2L << 7) + (3L << 14) + (4L << 21) + (5L << 28));
    }

    /** "of more than 64 bits the higher ones are lost". */
    private static void ulebLosesBitsAbove64() {
        byForm(15, new Bytes().add(EIGHT_FULL).u8(127), MOST);
        byForm(15, new Bytes().add(EIGHT_FULL).u8(255, 0), MOST);
        byForm(15, new Bytes().add(EIGHT_FULL).u8(255, 1), -1);
        byForm(15, new Bytes().add(EIGHT_FULL).u8(255, 2), MOST);
        byForm(15, new Bytes().add(EIGHT_FULL).u8(255, 126), MOST);
        byForm(15, new Bytes().add(EIGHT_FULL).u8(255, 127), -1);
        byForm(15, new Bytes().add(EIGHT_BARE).u8(128, 126), 0);
        byForm(15, new Bytes().add(EIGHT_BARE).u8(64), 1L << 62);
        byForm(15, new Bytes().add(EIGHT_BARE).u8(128, 1), -1);
    }

    /** A number as the value of the form 33, told as FILE of a call: its lowest 32 bits show. */
    private static void told(Bytes value, long due) {
        Bytes codes = new Bytes().u8(1, 29, 0, 88, 33).add(value).u8(0, 0, 0);
        AddressNamer x = Due.taken("value " + due, Dwarf.file(codes, new Bytes().u8(1)).build(), 1);
        Due.is("value " + due, x.entry(0, 7), (int) due);
    }

    /** "SLEB likewise, bit 6 of its last byte being its sign." */
    private static void slebHasItsSignInBit6() {
        told(new Bytes().u8(0), 0);
        told(new Bytes().u8(63), 63);
        told(new Bytes().u8(64), -64);
        told(new Bytes().u8(65), -63);
        told(new Bytes().u8(127), -1);
        told(new Bytes().u8(191, 0), 63);
        told(new Bytes().u8(192, 0), 64);
        told(new Bytes().u8(192, 127), -64);
        told(new Bytes().u8(191, 127), -65);
        told(new Bytes().u8(255, 0), 127);
        told(new Bytes().u8(255, 63), 8191);
        told(new Bytes().u8(128, 64), -8192);
        told(new Bytes().u8(255, 127), -1);
        told(new Bytes().u8(129, 130, 67), 1 + (2 << 7) + (3 << 14) - (1 << 20));
    }

    private static void byValue(Bytes value, long due) {
        high("SLEB " + due, new Bytes().u8(1, 46, 0, 17, 1, 18, 33).add(value).u8(0, 0, 0), new Bytes(), due);
    }

    private static void slebLosesBitsAbove64() {
        byValue(new Bytes().add(EIGHT_FULL).u8(63), MOST >> 1);
        byValue(new Bytes().add(EIGHT_BARE).u8(64), -1);
        byValue(new Bytes().add(EIGHT_FULL).u8(127), -1);
        byValue(new Bytes().add(EIGHT_FULL).u8(255, 0), MOST);
        byValue(new Bytes().add(EIGHT_FULL).u8(255, 1), -1);
        byValue(new Bytes().add(EIGHT_FULL).u8(255, 64), MOST);
        byValue(new Bytes().add(EIGHT_BARE).u8(128, 64), 0);
        byValue(new Bytes().add(EIGHT_BARE).u8(128, 65), -1);
        byValue(new Bytes().add(EIGHT_BARE).u8(128, 126), 0);
    }

    /** The program's SLEB is one like all: the LINE, which is 1 at the begin, shows it. */
    private static void slebOfTheProgram() {
        int[][] due = {{63, 63}, {64, -64}, {127, -1}};
        for (int[] d : due) {
            LineTable t = new LineTable().program(new Bytes().u8(3).sleb(99).u8(3, d[0])
                    .add(LineTable.endSequence()));
            AddressNamer x = Due.taken("opcode 3", Edge.lined(t.build()).build(), 1);
            Due.is("line by " + d[1], x.row(0, 2), 100 + d[1]);
        }
    }

    /** "(Ten bytes at most.)", "also a number of more than ten bytes": 1, where the number begins. */
    private static void numbersHaveTenBytesAtMost() {
        int places = new PaddedFile(PaddedFile.NO_PLACE, 0).places();
        Due.is("numbers in the file", places, 47);
        for (int place = 0; place < places; place++) {
            for (int bytes = 9; bytes <= 11; bytes++) {
                PaddedFile file = new PaddedFile(place, bytes);
                Edge.ask("number " + place + " of " + bytes + " bytes", file.elf(), file.section(), file.offset(),
                        bytes > 10 ? 1 : Edge.WELL);
            }
        }
    }

    /** "STRINGS end by a byte 0, which is none of theirs." */
    private static void stringsEndByZero() {
        Bytes codes = new Bytes().add(Dwarf.code(1, 46, 0, 3, 8, 17, 1, 18, 11)).u8(0);
        for (int length = 0; length <= 2; length++) {
            Bytes e = new Bytes().u8(1).text("\u00ff\u0001".substring(0, length)).u64(5).u8(1);
            AddressNamer x = Due.taken("a string", Dwarf.file(codes, e).build(), 1);
            x.find(5);
            Due.is("so many signs", x.entry(0, 6), length);
            Due.is("its first sign", x.name(0, 0), length > 0 ? 255 : -1);
            Due.is("its second sign", x.name(0, 1), length > 1 ? 1 : -1);
            Due.is("behind its last sign", x.name(0, length), -1);
        }
        Edge.entries("not ended", new Bytes().add(Dwarf.code(1, 46, 0, 3, 8)).u8(0), new Bytes().u8(1).raw("ab"),
                1, 1);
        Edge.entries("not begun", new Bytes().add(Dwarf.code(1, 46, 0, 3, 8)).u8(0), new Bytes().u8(1), 1, 1);
    }

    /** "ADDRESSES are numbers of 64 bits, 0 or more (as numbers with sign)." */
    private static void addressesAreZeroOrMore() {
        Bytes codes = new Bytes().add(Dwarf.code(1, 46, 0, 17, 1)).u8(0);
        long[] addresses = {0, 1, MOST, Long.MIN_VALUE, -1};
        for (long a : addresses) {
            Edge.entries("address " + a, codes, new Bytes().u8(1).u64(a), 1, a < 0 ? 2 : Edge.WELL);
        }
    }

    private static void abbreviationsEndWithin() {
        Items items = new Items().each(1, 17, 1).each(3, 8).each(17, 33).add(new Bytes().u8(255, 1))
                .add(new Bytes().padded(400, 3)).each(15).each(0, 0).add(new Bytes().padded(2, 2)).each(46, 0, 0, 0, 0);
        Bytes entries = new Bytes().u8(1).text("").uleb(5).u8(0);
        Edge.entries("abbreviations", items.all(), entries, 0, Edge.WELL);
        for (int cut = 1; cut < items.size(); cut++) {
            Edge.abbreviations("abbreviations of " + cut, items.upTo(cut), items.placeOf(cut), 1);
        }
    }

    private static Items entryOfAllForms() {
        Items items = new Items().add(new Bytes().padded(1, 2)).add(new Bytes().u64(1)).each(11)
                .add(new Bytes().u16(5)).add(new Bytes().u32(6)).add(new Bytes().u64(7))
                .add(new Bytes().padded(15, 3)).add(new Bytes().padded(13, 3)).add(new Bytes().text("abc"))
                .add(new Bytes().u32(0)).add(new Bytes().u32(12)).add(new Bytes().u32(23))
                .add(new Bytes().padded(2, 2).u8(0, 0));
        return items.each(2, 0);
    }

    /** A unit that ends within something: 1, where that begins; its children must be ended, too. */
    private static void unitEndsWithin() {
        long[] forms = {1, 11, 5, 6, 7, 15, 13, 8, 14, 19, 23, 24, 25};
        long[] pairs = new long[2 * forms.length];
        for (int i = 0; i < forms.length; i++) {
            pairs[2 * i] = 500;
            pairs[2 * i + 1] = forms[i];
        }
        Bytes codes = new Bytes().add(Dwarf.code(1, 17, 1, pairs)).add(Dwarf.code(2, 46, 0)).u8(0);
        Bytes texts = new Bytes().text("");
        Items head = new Items().add(new Bytes().u16(5)).each(1, 8).add(new Bytes().u32(0));
        Items items = entryOfAllForms();
        for (int cut = 0; cut < head.size(); cut++) {
            Bytes unit = new Bytes().u32(cut).add(head.upTo(cut));
            Edge.ask("a head of " + cut, new ElfFile().add(".debug_abbrev", codes).add(".debug_info", unit),
                    ".debug_info", 4 + head.placeOf(cut), 1);
        }
        for (int cut = 0; cut <= items.size(); cut++) {
            boolean whole = cut == items.size();
            ElfFile elf = Dwarf.file(codes, items.upTo(cut)).add(".debug_str", texts);
            Edge.ask("entries of " + cut, elf, ".debug_info", 12 + (whole ? 0 : items.placeOf(cut)),
                    whole ? Edge.WELL : 1);
        }
    }

    private static void rangesEndWithin() {
        Items items = new Items().each(4).add(new Bytes().padded(1, 2)).add(new Bytes().padded(2, 3)).each(5)
                .add(new Bytes().u64(9)).each(6).add(new Bytes().u64(1)).add(new Bytes().u64(2)).each(7)
                .add(new Bytes().u64(1)).add(new Bytes().padded(2, 2)).each(0);
        for (int cut = 1; cut <= items.size(); cut++) {
            boolean whole = cut == items.size();
            Edge.ask("a list of " + cut, Edge.listed(0, items.upTo(cut)), ".debug_rnglists",
                    whole ? 0 : items.placeOf(cut), whole ? Edge.WELL : 1);
        }
    }

    /** The head's own length is told as 0 here: the table's end alone cuts it. */
    private static void headOfLinesEndsWithin() {
        Items items = new Items().add(new Bytes().u16(5)).each(8, 0).add(new Bytes().u32(0)).each(1, 1, 1, -5, 14, 11)
                .each(0, 1, 1, 1, 1, 0, 0, 0, 1, 0).each(1).add(new Bytes().padded(1, 2))
                .add(new Bytes().padded(8, 2)).add(new Bytes().padded(2, 2)).add(new Bytes().text("/d"))
                .add(new Bytes().text("")).each(2).add(new Bytes().padded(1, 2)).add(new Bytes().padded(8, 2))
                .add(new Bytes().padded(2, 2)).add(new Bytes().padded(15, 2)).add(new Bytes().padded(1, 2))
                .add(new Bytes().text("ab")).add(new Bytes().padded(1, 2));
        for (int cut = 0; cut <= items.size(); cut++) {
            boolean whole = cut == items.size();
            Edge.table("a head of " + cut, new Bytes().u32(cut).add(items.upTo(cut)),
                    4 + (whole ? cut : items.placeOf(cut)), whole ? 2 : 1);
        }
    }

    /** The sequence is begun by the first opcode, so that each end between two opcodes is a fault, too. */
    private static void programEndsWithin() {
        Items items = new Items().each(1, 2).add(new Bytes().padded(5, 2)).each(3).add(new Bytes().padded(5, 2))
                .each(4).add(new Bytes().padded(5, 2)).each(5).add(new Bytes().padded(5, 2)).each(6, 7, 8, 9)
                .add(new Bytes().u16(7)).each(12).add(new Bytes().padded(5, 2)).each(20);
        int address = items.size();
        items.each(0).add(new Bytes().padded(9, 2)).addOf(address, new Bytes().u8(2).u64(100));
        int other = items.size();
        items.each(0, 2).addOf(other, new Bytes().u8(9, 9));
        int end = items.size();
        items.each(0, 1).addOf(end, new Bytes().u8(1));
        for (int cut = 1; cut <= items.size(); cut++) {
            boolean whole = cut == items.size();
            Edge.program("a program of " + cut, new LineTable().program(items.upTo(cut)),
                    whole ? 0 : items.placeOf(cut), whole ? Edge.WELL : 1);
        }
    }
}
