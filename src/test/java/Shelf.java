/** Calls that many tests make of an object, and all that can be seen of one. */
final class Shelf {
    static final int LIST = -1;

    static int asInt(boolean answer) {
        return answer ? 1 : 0;
    }

    static void put(PostingShelf x, int key, int... terms) {
        for (int t : terms) {
            x.type(t);
        }
        x.add(key);
    }

    /** Commits a document with one term: its segment has 8 bytes while the key is less than 128. */
    static int commitOne(PostingShelf x, int key) {
        put(x, key, 1);
        return x.commit();
    }

    /** Segments of 8 bytes, with keys 1, 2, ..; they and their list use 1 + 10 * many bytes. */
    static PostingShelf ofSegments(int room, int many) {
        PostingShelf x = new PostingShelf(room);
        for (int key = 1; key <= many; key++) {
            commitOne(x, key);
        }
        return x;
    }

    static String bytes(PostingShelf x, int s) {
        StringBuilder text = new StringBuilder();
        int size = x.size(s);
        for (int k = 0; k < size; k++) {
            text.append(k == 0 ? "" : " ").append(x.at(s, k));
        }
        return text.toString();
    }

    /** All that can be seen but for queries. */
    static String shown(PostingShelf x) {
        StringBuilder text = new StringBuilder();
        text.append("documents ").append(x.documents()).append(" buffered ").append(x.buffered());
        text.append(" segments ").append(x.segments()).append(" free ").append(x.free());
        text.append(" list ").append(bytes(x, LIST));
        for (int s = 0; s < x.segments(); s++) {
            text.append(" | ").append(bytes(x, s));
        }
        return text.toString().trim();
    }

    private Shelf() {
    }
}
