/** The forms of part 3 of the terms, each with a value of just its size. */
final class Forms {
    static final int[] ALL = {1, 11, 5, 6, 7, 15, 13, 8, 14, 19, 23, 24, 25, 33};
    /** Those by which HIGH, FILE and LINE of a call are told. */
    static final int[] COUNTS = {11, 5, 6, 7, 15, 33};

    private Forms() {
    }

    static boolean isCount(int form) {
        for (int f : COUNTS) {
            if (f == form) {
                return true;
            }
        }
        return false;
    }

    /** A pair; the form 33 has its value behind it. */
    static Bytes pair(int attribute, int form, int value) {
        Bytes b = new Bytes().uleb(attribute, form);
        return form == 33 ? b.sleb(value) : b;
    }

    /** What an entry has by a form: a small number, a place, or "ab" for the strings. */
    static Bytes value(int form, int value) {
        switch (form) {
            case 1:
            case 7:
                return new Bytes().u64(value);
            case 5:
                return new Bytes().u16(value);
            case 6:
            case 14:
            case 19:
            case 23:
                return new Bytes().u32(value);
            case 8:
                return new Bytes().text("ab");
            case 11:
                return new Bytes().u8(value);
            case 13:
                return new Bytes().sleb(value);
            case 15:
                return new Bytes().uleb(value);
            case 24:
                return new Bytes().u8(1, value);
            default:
                return new Bytes();
        }
    }
}
