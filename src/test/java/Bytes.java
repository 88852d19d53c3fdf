import java.io.ByteArrayOutputStream;
import java.nio.charset.StandardCharsets;

/** A row of bytes that grows; numbers have their lowest byte first. */
final class Bytes {
    private final ByteArrayOutputStream out = new ByteArrayOutputStream();

    private Bytes number(int width, long value) {
        for (int i = 0; i < width; i++) {
            out.write((int) (value >> (8 * i)) & 255);
        }
        return this;
    }

    Bytes u8(long... values) {
        for (long v : values) {
            number(1, v);
        }
        return this;
    }

    Bytes u16(long value) {
        return number(2, value);
    }

    Bytes u32(long value) {
        return number(4, value);
    }

    Bytes u64(long value) {
        return number(8, value);
    }

    Bytes uleb(long... values) {
        for (long v : values) {
            long rest = v;
            while (rest < 0 || rest > 127) {
                number(1, rest & 127 | 128);
                rest >>>= 7;
            }
            number(1, rest);
        }
        return this;
    }

    /** A ULEB of just so many bytes: the last ones tell nothing but that it goes on up to there. */
    Bytes padded(long value, int bytes) {
        long rest = value;
        for (int i = 1; i < bytes; i++) {
            number(1, rest & 127 | 128);
            rest >>>= 7;
        }
        return number(1, rest & 127);
    }

    Bytes sleb(long value) {
        long rest = value;
        while (rest < -64 || rest > 63) {
            number(1, rest & 127 | 128);
            rest >>= 7;
        }
        return number(1, rest & 127);
    }

    Bytes text(String s) {
        byte[] signs = s.getBytes(StandardCharsets.ISO_8859_1);
        out.write(signs, 0, signs.length);
        return number(1, 0);
    }

    Bytes raw(String s) {
        byte[] signs = s.getBytes(StandardCharsets.ISO_8859_1);
        out.write(signs, 0, signs.length);
        return this;
    }

    Bytes add(Bytes other) {
        byte[] all = other.toArray();
        out.write(all, 0, all.length);
        return this;
    }

    Bytes times(int n, Bytes other) {
        for (int i = 0; i < n; i++) {
            add(other);
        }
        return this;
    }

    /** Those from one on, below another one. */
    Bytes part(int from, int to) {
        Bytes some = new Bytes();
        some.out.write(out.toByteArray(), from, to - from);
        return some;
    }

    int size() {
        return out.size();
    }

    byte[] toArray() {
        return out.toByteArray();
    }
}
