import java.math.BigInteger;

/**
 * Sums that run beyond 64 bits (parts 4 and 5 of the terms; promises 5, 6, 8, 9, 10): numbers without
 * a limit tell what is due.
 */
public final class SumTest {
    private static final long[] EDGES = {0, 1, 5, 100, 101, 1L << 32, (1L << 56) + 3, 0x5555555555555555L,
        0x5555555555555556L, 1L << 62, Long.MAX_VALUE - 100, Long.MAX_VALUE - 1, Long.MAX_VALUE, Long.MIN_VALUE,
        Long.MIN_VALUE + 1, -102, -101, -100, -99, -1};
    private static final BigInteger MOST = BigInteger.valueOf(Long.MAX_VALUE);
    private static final BigInteger LINE_MOST = BigInteger.valueOf(1000000);

    public static void main(String[] args) {
        rowsOfLists();
        highAboveLow();
        addresses();
        addressesBySmallSteps();
        lines();
        eachTableAnew();
        Due.finish("SumTest");
    }

    private static BigInteger withoutSign(long value) {
        return new BigInteger(Long.toUnsignedString(value));
    }

    private static boolean isAddress(BigInteger value) {
        return value.signum() >= 0 && value.compareTo(MOST) <= 0;
    }

    private static boolean isRange(BigInteger low, BigInteger high) {
        return isAddress(low) && isAddress(high) && low.compareTo(high) <= 0;
    }

    private static void range(String what, ElfFile elf, int place, BigInteger low, BigInteger high) {
        byte[] file = elf.build();
        if (!isRange(low, high)) {
            Due.refused(what, file, 2, place);
            return;
        }
        AddressNamer x = Due.taken(what, file, 1);
        boolean some = low.compareTo(high) < 0;
        Due.is(what + ": its first", x.holds(0, low.longValue()), some);
        Due.is(what + ": its last", x.holds(0, high.longValue() - 1), some);
        Due.is(what + ": behind it", x.holds(0, high.longValue()), false);
    }

    private static ElfFile listed(long base, Bytes row) {
        Bytes codes = new Bytes().add(Dwarf.code(1, 17, 0, 17, 1, 85, 23)).u8(0);
        return Dwarf.file(codes, new Bytes().u8(1).u64(base).u32(0))
                .add(".debug_rnglists", new Bytes().add(row).u8(0));
    }

    private static int listPlace() {
        ElfFile elf = listed(0, new Bytes());
        elf.build();
        return elf.placeOf(".debug_rnglists");
    }

    private static void rowsOfLists() {
        int place = listPlace();
        for (long base : EDGES) {
            BigInteger b = BigInteger.valueOf(base);
            for (long first : EDGES) {
                String told = base + ", " + Long.toUnsignedString(first);
                range("7: " + told, listed(0, new Bytes().u8(7).u64(base).uleb(first)), place, b,
                        b.add(withoutSign(first)));
                range("6: " + told, listed(0, new Bytes().u8(6).u64(base).u64(first)), place, b,
                        BigInteger.valueOf(first));
                for (long second : base < 0 ? new long[0] : EDGES) {
                    BigInteger low = b.add(withoutSign(first));
                    BigInteger high = b.add(withoutSign(second));
                    String what = "4: " + told + ", " + Long.toUnsignedString(second);
                    range(what, listed(base, new Bytes().u8(4).uleb(first, second)), place, low, high);
                    byte[] behindFive = listed(0, new Bytes().u8(5).u64(base).u8(4).uleb(first, second)).build();
                    if (isRange(low, high)) {
                        Due.taken("5, " + what, behindFive, 1);
                    } else {
                        Due.refused("5, " + what, behindFive, 2, place + 9);
                    }
                }
            }
        }
    }

    private static void highAboveLow() {
        for (long low : EDGES) {
            for (long more : low < 0 ? new long[0] : EDGES) {
                BigInteger l = BigInteger.valueOf(low);
                Bytes eight = new Bytes().add(Dwarf.code(1, 46, 0, 17, 1, 18, 7)).u8(0);
                Bytes uleb = new Bytes().add(Dwarf.code(1, 46, 0, 17, 1, 18, 15)).u8(0);
                Bytes byCode = new Bytes().u8(1, 46, 0, 17, 1, 18, 33).sleb(more).u8(0, 0, 0);
                Bytes values = new Bytes().u8(1).u64(low);
                aboveLow("form 7", Dwarf.file(eight, new Bytes().add(values).u64(more)), l, withoutSign(more));
                aboveLow("form 15", Dwarf.file(uleb, new Bytes().add(values).uleb(more)), l, withoutSign(more));
                aboveLow("form 33", Dwarf.file(byCode, values), l, BigInteger.valueOf(more));
            }
        }
    }

    private static void aboveLow(String form, ElfFile elf, BigInteger low, BigInteger more) {
        elf.build();
        range(form + ": " + low + ", " + more, elf, elf.placeOf(".debug_info") + 12, low, low.add(more));
    }

    /** The program's last three bytes end its sequence: the row of that is taken or refused. */
    private static void ended(String what, LineTable table, BigInteger address, BigInteger line) {
        Bytes codes = new Bytes().add(Dwarf.code(1, 17, 0, 16, 23)).u8(0);
        ElfFile elf = Dwarf.file(codes, new Bytes().u8(1).u32(0)).add(".debug_line", table.build());
        byte[] file = elf.build();
        boolean lineFits = line.signum() >= 0 && line.compareTo(LINE_MOST) <= 0;
        if (!isAddress(address) || !lineFits) {
            Due.refused(what, file, 2, elf.placeOf(".debug_line") + table.build().size() - 3);
            return;
        }
        AddressNamer x = Due.taken(what, file, 1);
        Due.is(what + ": rowAt(0)", x.rowAt(0), address.longValue());
        Due.is(what + ": row(0, 2)", x.row(0, 2), line.longValue());
    }

    private static void addresses() {
        for (int least : new int[] {0, 1, 2, 3, 128, 255}) {
            BigInteger l = BigInteger.valueOf(least);
            for (long from : EDGES) {
                for (long first : EDGES) {
                    for (long second : EDGES) {
                        LineTable t = new LineTable().program(new Bytes().add(LineTable.setAddress(from))
                                .u8(2).uleb(first).u8(2).uleb(second).add(LineTable.endSequence()));
                        t.least = least;
                        BigInteger more = l.multiply(withoutSign(first).add(withoutSign(second)));
                        ended(least + " times " + first + " and " + second + " more than " + from, t,
                                BigInteger.valueOf(from).add(more), BigInteger.ONE);
                    }
                }
            }
        }
    }

    /** Opcodes 8, 9 and special ones run over too, and no later one brings the address back. */
    private static void addressesBySmallSteps() {
        Bytes over = LineTable.setAddress(Long.MAX_VALUE - 3);
        Bytes back = new Bytes().u8(2).uleb(Long.MIN_VALUE);
        Bytes[] steps = {new Bytes().u8(8), new Bytes().u8(9).u16(17)};
        for (Bytes step : steps) {
            BigInteger far = MOST.add(BigInteger.valueOf(14)).add(withoutSign(Long.MIN_VALUE));
            LineTable t = new LineTable().program(new Bytes().add(over).add(step).add(back)
                    .add(LineTable.endSequence()));
            ended("over by opcode " + step.toArray()[0], t, far, BigInteger.ONE);
            LineTable set = new LineTable().program(new Bytes().add(over).add(step)
                    .add(LineTable.setAddress(7)).add(LineTable.endSequence()));
            ended("set behind opcode " + step.toArray()[0], set, BigInteger.valueOf(7), BigInteger.ONE);
        }
        // the first row of a new sequence is at 0 again, whatever the one ahead was
        LineTable again = new LineTable().program(new Bytes().add(LineTable.setAddress(Long.MAX_VALUE)).u8(1)
                .add(LineTable.endSequence()).add(LineTable.setAddress(-1)).u8(2, 1).add(LineTable.endSequence()));
        Bytes codes = new Bytes().add(Dwarf.code(1, 17, 0, 16, 23)).u8(0);
        AddressNamer x = Due.taken("two sequences", Dwarf.file(codes, new Bytes().u8(1).u32(0))
                .add(".debug_line", again.build()).build(), 1);
        Due.is("one more than -1", x.rowAt(2), 0);
    }

    private static void lines() {
        long[] steps = {0, 1, 999999, 1000000, -1, -2, Long.MAX_VALUE, Long.MAX_VALUE - 1, Long.MIN_VALUE,
            Long.MIN_VALUE + 1};
        for (long a : steps) {
            for (long b : steps) {
                for (long c : steps) {
                    LineTable t = new LineTable().program(new Bytes().u8(3).sleb(a).u8(3).sleb(b).u8(3).sleb(c)
                            .add(LineTable.endSequence()));
                    BigInteger line = BigInteger.ONE.add(BigInteger.valueOf(a)).add(BigInteger.valueOf(b))
                            .add(BigInteger.valueOf(c));
                    ended("line by " + a + ", " + b + ", " + c, t, BigInteger.ZERO, line);
                }
            }
        }
    }

    /** A program without rows may leave its registers beyond 64 bits: the next table's begin anew. */
    private static void eachTableAnew() {
        Bytes over = new Bytes().u8(2).uleb(-1).u8(2).uleb(-1).u8(3).sleb(Long.MAX_VALUE).u8(3).sleb(Long.MAX_VALUE);
        Bytes first = new LineTable().program(over).build();
        Bytes second = new LineTable().program(LineTable.endSequence()).build();
        Bytes codes = new Bytes().add(Dwarf.code(1, 17, 0, 16, 23)).u8(0);
        Bytes units = new Bytes().add(Dwarf.unit(new Bytes().u8(1).u32(0)))
                .add(Dwarf.unit(new Bytes().u8(1).u32(first.size())));
        AddressNamer x = Due.taken("two tables", new ElfFile().add(".debug_abbrev", codes).add(".debug_info", units)
                .add(".debug_line", new Bytes().add(first).add(second)).build(), 2);
        Due.is("rowAt(0)", x.rowAt(0), 0);
        Due.is("row(0, 2)", x.row(0, 2), 1);
    }
}
