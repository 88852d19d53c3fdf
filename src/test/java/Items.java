import java.util.ArrayList;
import java.util.List;

/** Bytes in items: where they are cut, it is known where that begins which is cut. */
final class Items {
    private final Bytes bytes = new Bytes();
    private final List<Integer> places = new ArrayList<>();

    Items add(Bytes item) {
        return addOf(bytes.size(), item);
    }

    /** Bytes that belong to something which began ahead of them. */
    Items addOf(int place, Bytes item) {
        for (int i = 0; i < item.size(); i++) {
            places.add(place);
        }
        bytes.add(item);
        return this;
    }

    /** Items of one byte each. */
    Items each(long... values) {
        for (long v : values) {
            add(new Bytes().u8(v));
        }
        return this;
    }

    int size() {
        return bytes.size();
    }

    Bytes upTo(int cut) {
        return bytes.part(0, cut);
    }

    Bytes all() {
        return upTo(size());
    }

    int placeOf(int cut) {
        return places.get(cut);
    }
}
