import java.math.BigInteger;

/** Each "at most" filled up: what is told of the last one is its own, as of the first one. */
public final class FullTest {
    /** So few at a time that no object is asked more often than the document allows. */
    private static final int AT_A_TIME = 40;

    public static void main(String[] args) {
        thirtySections();
        hundredSymbols();
        twentyUnits();
        fortyCodesOfSixteenPairs();
        fourHundredEntries();
        twoHundredRangesOfOne();
        twoHundredEntriesWithARange();
        fortyFilesOfOneTable();
        fortyFilesOfTwentyTables();
        sixHundredRows();
        productsAtTheGreatestAddress();
        Due.finish("FullTest");
    }

    private static void thirtySections() {
        ElfFile elf = new ElfFile();
        for (int i = 0; i < 26; i++) {
            elf.add("s" + i, new Bytes().u8(i));
        }
        elf.add(".strtab", new Bytes().text("ab")).add(".symtab", Dwarf.symbol(0, 2, 1, 5, 5));
        AddressNamer x = Due.taken("30 sections", elf.build(), 0);
        Due.is("count(1)", x.count(1), 30);
        x.find(5);
        Due.is("its symbol", x.symbol(0), 0);
        Due.text("its name", k -> x.name(-1, k), "ab");
    }

    private static void hundredSymbols() {
        Bytes names = new Bytes();
        Bytes rows = new Bytes();
        for (int i = 0; i < 100; i++) {
            rows.add(Dwarf.symbol(names.size(), 2, 1, 1000 + 10 * i, 10));
            names.u8(33 + i, 0);
        }
        byte[] file = new ElfFile().add(".symtab", rows).add(".strtab", names).build();
        AddressNamer x = Due.taken("100 symbols", file, 0);
        for (int i = 0; i < 100; i++) {
            x.find(1000 + 10 * i + 9);
            Due.is("symbol " + i, x.symbol(0), i);
            Due.is("name of symbol " + i, x.name(-1, 0), 33 + i);
        }
    }

    private static void twentyUnits() {
        Bytes codes = new Bytes().add(Dwarf.code(1, 46, 0, 17, 1, 18, 11, 3, 8)).u8(0);
        Bytes info = new Bytes();
        for (int u = 0; u < 20; u++) {
            info.add(Dwarf.unit(new Bytes().u8(1).u64(100 + 10 * u).u8(10).u8(65 + u, 0)));
        }
        AddressNamer x = Due.taken("20 units", new ElfFile().add(".debug_abbrev", codes).add(".debug_info", info)
                .build(), 20);
        for (int u = 0; u < 20; u++) {
            Due.is("unit of entry " + u, x.entry(u, 2), u);
            Due.is("find in unit " + u, x.find(109 + 10 * u), 1);
            Due.is("entry of unit " + u, x.frame(0, 0), u);
            Due.is("name of unit " + u, x.name(0, 0), 65 + u);
        }
    }

    /** The last pair of each code tells the FILE of a call by its own value. */
    private static void fortyCodesOfSixteenPairs() {
        Bytes codes = new Bytes().add(Dwarf.code(1, 17, 1));
        Bytes e = new Bytes().u8(1);
        for (int c = 2; c <= 40; c++) {
            codes.uleb(c, 100 + c).u8(0);
            for (int pair = 0; pair < 14; pair++) {
                codes.uleb(50 + pair % 3, 33).sleb(pair);
            }
            codes.uleb(89, 11, 88, 33).sleb(1000 + c).u8(0, 0);
            e.u8(c, 60 + c);
        }
        AddressNamer x = Due.taken("40 codes", Dwarf.file(codes.u8(0), e.u8(0)).build(), 40);
        for (int c = 2; c <= 40; c++) {
            Due.is("tag of code " + c, x.entry(c - 1, 0), 100 + c);
            Due.is("value of code " + c, x.entry(c - 1, 7), 1000 + c);
            Due.is("number by code " + c, x.entry(c - 1, 8), 60 + c);
        }
    }

    private static void fourHundredEntries() {
        Bytes codes = new Bytes().add(Dwarf.code(1, 17, 1, 88, 5, 89, 5)).add(Dwarf.code(2, 29, 0, 88, 5, 89, 5, 49, 19))
                .u8(0);
        Bytes e = new Bytes().u8(1).u16(7000).u16(0);
        for (int i = 1; i < 400; i++) {
            int origin = i == 1 ? 12 : 12 + 5 + 9 * (i - 2);
            e.u8(2).u16(7000 + i).u16(i).u32(origin);
        }
        byte[] file = Dwarf.file(codes, e.u8(0)).build();
        for (int from = 0; from < 400; from += AT_A_TIME) {
            AddressNamer x = Due.taken("400 entries", file, 400);
            for (int i = from; i < from + AT_A_TIME; i++) {
                Due.is("FILE of " + i, x.entry(i, 7), 7000 + i);
                Due.is("LINE of " + i, x.entry(i, 8), i);
                Due.is("ORIGIN of " + i, x.entry(i, 3), i - 1);
                Due.is("parent of " + i, x.entry(i, 1), i == 0 ? -1 : 0);
            }
        }
    }

    private static void ranges(byte[] file, int entries, boolean ofOne) {
        for (int from = 0; from < 200; from += AT_A_TIME) {
            AddressNamer x = Due.taken("200 ranges", file, entries);
            Due.is("count(5)", x.count(5), 200);
            for (int i = from; i < from + AT_A_TIME; i++) {
                int e = ofOne ? 0 : i + 1;
                Due.is("below range " + i, x.holds(e, 10 * i - 1), false);
                Due.is("the first of range " + i, x.holds(e, 10 * i), true);
                Due.is("the last of range " + i, x.holds(e, 10 * i + 2), true);
                Due.is("behind range " + i, x.holds(e, 10 * i + 3), false);
            }
        }
    }

    private static void twoHundredRangesOfOne() {
        Bytes list = new Bytes();
        for (int i = 0; i < 200; i++) {
            list.u8(4).uleb(10 * i, 10 * i + 3);
        }
        ranges(Edge.listed(0, list.u8(0)).build(), 1, true);
    }

    private static void twoHundredEntriesWithARange() {
        Bytes codes = new Bytes().add(Dwarf.code(1, 17, 1)).add(Dwarf.code(2, 46, 0, 17, 1, 18, 11)).u8(0);
        Bytes e = new Bytes().u8(1);
        for (int i = 0; i < 200; i++) {
            e.u8(2).u64(10 * i).u8(3);
        }
        ranges(Dwarf.file(codes, e.u8(0)).build(), 201, false);
    }

    private static final Bytes LINED = new Bytes().add(Dwarf.code(1, 46, 0, 17, 1, 18, 5, 16, 23)).u8(0);

    private static void fortyFilesOfOneTable() {
        LineTable t = new LineTable();
        t.files = new Bytes().uleb(40);
        for (int i = 0; i < 40; i++) {
            t.files.u8(65 + i, 0, 0);
            t.program.u8(4, i, 1, 2, 1);
        }
        t.program.add(LineTable.endSequence());
        AddressNamer x = Due.taken("40 files", Dwarf.file(LINED, new Bytes().u8(1).u64(0).u16(40).u32(0))
                .add(".debug_line", t.build()).build(), 1);
        for (int i = 0; i < 40; i++) {
            x.find(i);
            Due.is("FILE at " + i, x.frame(0, 1), i);
            Due.is("signs of FILE " + i, x.frame(0, 4), 1);
            Due.is("sign of FILE " + i, x.file(0, 0), 65 + i);
        }
    }

    private static void fortyFilesOfTwentyTables() {
        Bytes info = new Bytes();
        Bytes lines = new Bytes();
        for (int u = 0; u < 20; u++) {
            LineTable t = new LineTable();
            t.files = new Bytes().uleb(2).text("x").u8(0).u8(65 + u, 0, 0);
            t.program = new Bytes().add(LineTable.setAddress(100 * u)).u8(1, 2, 99).add(LineTable.endSequence());
            info.add(Dwarf.unit(new Bytes().u8(1).u64(100 * u).u16(100).u32(lines.size())));
            lines.add(t.build());
        }
        AddressNamer x = Due.taken("20 tables", new ElfFile().add(".debug_abbrev", LINED).add(".debug_info", info)
                .add(".debug_line", lines).build(), 20);
        Due.is("count(7)", x.count(7), 40);
        for (int u = 0; u < 20; u++) {
            x.find(100 * u + 98);
            Due.is("FILE of unit " + u, x.frame(0, 1), 1);
            Due.is("its sign", x.file(0, 0), 65 + u);
            Due.is("unit of row " + 2 * u, x.row(2 * u, 0), u);
            x.find(100 * u + 99);
            Due.is("no row governs", x.frame(0, 1), 0);
            Due.is("the first FILE's sign", x.file(0, 0), 'x');
        }
    }

    private static void sixHundredRows() {
        LineTable t = new LineTable();
        for (int i = 0; i < 599; i++) {
            t.program.u8(4).uleb(i).u8(3, 1, 1, 2, 3);
        }
        byte[] file = Dwarf.file(LINED, new Bytes().u8(1).u64(0).u16(3000).u32(0))
                .add(".debug_line", new LineTable().program(t.program.add(LineTable.endSequence())).build()).build();
        for (int from = 0; from < 600; from += AT_A_TIME) {
            AddressNamer x = Due.taken("600 rows", file, 1);
            for (int i = from; i < from + AT_A_TIME; i++) {
                boolean last = i == 599;
                Due.is("ADDRESS of row " + i, x.rowAt(i), 3 * i);
                Due.is("FILE of row " + i, x.row(i, 1), last ? 598 : i);
                Due.is("whether row " + i + " ends", x.row(i, 3), last ? 1 : 0);
                x.find(3 * i + 2);
                Due.is("LINE by row " + i, x.frame(0, 2), last ? 0 : i + 2);
            }
        }
    }

    /** "the ADDRESS is l times an ULEB more": products just below and above 63 and 64 bits. */
    private static void productsAtTheGreatestAddress() {
        for (int l = 1; l <= 255; l++) {
            BigInteger least = BigInteger.valueOf(l);
            for (int bits = 63; bits <= 64; bits++) {
                BigInteger limit = BigInteger.ONE.shiftLeft(bits);
                BigInteger first = limit.add(least).subtract(BigInteger.ONE).divide(least);
                for (int less = 0; less <= 1; less++) {
                    BigInteger steps = first.subtract(BigInteger.valueOf(less));
                    BigInteger address = least.multiply(steps);
                    if (steps.bitLength() <= 64) {
                        LineTable t = new LineTable().program(new Bytes().u8(2).uleb(steps.longValue())
                                .add(LineTable.endSequence()));
                        t.least = l;
                        Edge.program(l + " times " + steps, t, t.program.size() - 3,
                                address.bitLength() > 63 ? 2 : Edge.WELL);
                    }
                }
            }
        }
    }
}
