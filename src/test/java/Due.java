/** Compares answers with those that are due, prints those that differ, and ends with 1 if any did. */
final class Due {
    private static int asked = 0;
    private static int wrong = 0;

    private Due() {
    }

    static void is(String what, long got, long want) {
        asked++;
        if (got != want) {
            wrong++;
            System.out.println(what + " answered " + got + ", due is " + want);
        }
    }

    static void is(String what, boolean got, boolean want) {
        is(what, got ? 1 : 0, want ? 1 : 0);
    }

    /** Puts a file on an object's tape in place of what is there. */
    static void put(AddressNamer x, byte[] file) {
        x.end(0);
        for (int i = 0; i < file.length; i += 20) {
            x.feed(word(file, i), word(file, i + 4), word(file, i + 8), word(file, i + 12), word(file, i + 16));
        }
        is("end(" + file.length + ")", x.end(file.length), true);
    }

    private static int word(byte[] file, int at) {
        int w = 0;
        for (int i = at; i < at + 4; i++) {
            w = w << 8 | (i < file.length ? file[i] & 255 : 0);
        }
        return w;
    }

    static AddressNamer taken(String what, byte[] file) {
        AddressNamer x = new AddressNamer();
        put(x, file);
        int entries = x.load();
        is(what + ": fault(0)", x.fault(0), 0);
        is(what + ": fault(1)", x.fault(1), AddressNamer.NONE);
        is(what + ": load() told", entries, x.count(4));
        return x;
    }

    static AddressNamer taken(String what, byte[] file, int entries) {
        AddressNamer x = new AddressNamer();
        put(x, file);
        is(what + ": load()", x.load(), entries);
        is(what + ": fault(0)", x.fault(0), 0);
        is(what + ": fault(1)", x.fault(1), AddressNamer.NONE);
        return x;
    }

    static void refused(String what, byte[] file, int fault, int place) {
        AddressNamer x = new AddressNamer();
        put(x, file);
        is(what + ": load()", x.load(), AddressNamer.NONE);
        is(what + ": fault(0)", x.fault(0), fault);
        is(what + ": fault(1)", x.fault(1), place);
        is(what + ": count(4)", x.count(4), 0);
    }

    static String text(IntBySign signs) {
        StringBuilder s = new StringBuilder();
        for (int k = 0; signs.at(k) != AddressNamer.NONE; k++) {
            s.append((char) signs.at(k));
        }
        return s.toString();
    }

    interface IntBySign {
        int at(int k);
    }

    static void text(String what, IntBySign signs, String want) {
        String got = text(signs);
        asked++;
        if (!got.equals(want)) {
            wrong++;
            System.out.println(what + " spelled '" + got + "', due is '" + want + "'");
        }
    }

    static void finish(String test) {
        System.out.println(test + ": " + asked + " asked, " + wrong + " wrong");
        if (wrong != 0) {
            System.exit(1);
        }
    }
}
