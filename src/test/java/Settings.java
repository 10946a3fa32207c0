/** Objects in states that the tests of several sentences begin with. */
final class Settings {
    /** Something of everything: segments with deleted and doomed documents, a buffer, a draft and a pile. */
    static PostingShelf rich() {
        PostingShelf x = new PostingShelf(800);
        Shelf.put(x, 10, 1, 2, 1);
        Shelf.put(x, 11, 2);
        Shelf.put(x, 12, 3, 3);
        x.commit();
        Shelf.put(x, 20, 1);
        Shelf.put(x, 21, 4, 1);
        x.commit();
        Shelf.put(x, 30, 5);
        Shelf.put(x, 31, 1, 2);
        x.commit();
        x.delete(11);
        x.delete(30);
        x.commit();
        x.delete(21);
        Shelf.put(x, 40, 6, 1);
        Shelf.put(x, 41, 2, 1);
        fillDraftAndPile(x);
        return x;
    }

    /** Two terms in the draft, and the queries 1, 2 FOLLOW 1, and 3. */
    private static void fillDraftAndPile(PostingShelf x) {
        x.type(1);
        x.type(7);
        x.want(1);
        x.want(2);
        x.want(1);
        x.combine(3);
        x.want(3);
    }

    static PostingShelf draftAlone() {
        PostingShelf x = new PostingShelf(64);
        x.type(1);
        return x;
    }

    /** The documents 1 and 2 in the buffer, for a segment of 61 bytes and so many more, and a list of 3. */
    static PostingShelf toWrite64(int room, int more) {
        PostingShelf x = new PostingShelf(room);
        for (int n = 0; n < more; n++) {
            x.type(10);
        }
        Shelf.put(x, 1, 10, 10, 0, 1, 2, 3);
        Shelf.put(x, 2, 4, 5, 6, 7, 8, 9);
        return x;
    }

    /** The same, written: 64 bytes are used. */
    static PostingShelf with64(int room) {
        PostingShelf x = toWrite64(room, 0);
        x.commit();
        return x;
    }

    static PostingShelf fullDraft() {
        PostingShelf x = rich();
        for (int t = 8; t < 14; t++) {
            x.type(t);
        }
        return x;
    }

    static PostingShelf emptyDraft() {
        PostingShelf x = rich();
        x.add(42);
        return x;
    }

    static PostingShelf fullBuffer() {
        PostingShelf x = emptyDraft();
        for (int key = 43; key <= 51; key++) {
            Shelf.put(x, key, 8);
        }
        x.type(1);
        x.type(7);
        return x;
    }

    /** A segment of 8 bytes and a list of 11 are to be written, with 18 bytes free. */
    static PostingShelf noRoomToCommit() {
        PostingShelf x = Shelf.ofSegments(69, 5);
        x.delete(1);
        Shelf.put(x, 6, 1);
        fillDraftAndPile(x);
        return x;
    }

    /** A merge of the first two would write a segment of 13 bytes and a list of 9, with 21 bytes free. */
    static PostingShelf noRoomToMerge() {
        PostingShelf x = Shelf.ofSegments(72, 5);
        x.delete(2);
        Shelf.put(x, 6, 1);
        fillDraftAndPile(x);
        return x;
    }

    /** Ten segments, the first with a doomed document and another, and a buffer for an eleventh. */
    static PostingShelf tenSegments() {
        PostingShelf x = new PostingShelf(800);
        Shelf.put(x, 0, 2);
        for (int key = 1; key <= 10; key++) {
            Shelf.commitOne(x, key);
        }
        x.delete(0);
        Shelf.put(x, 11, 1);
        fillDraftAndPile(x);
        return x;
    }

    static PostingShelf fullPile() {
        PostingShelf x = rich();
        for (int t = 4; t < 9; t++) {
            x.want(t);
        }
        return x;
    }

    static PostingShelf pileOf(int queries) {
        PostingShelf x = rich();
        for (int n = 3; n > queries; n--) {
            x.discard();
        }
        return x;
    }

    /** Two queries on top that have so many leaves, each made by EITHER. */
    static PostingShelf leaves(int below, int top) {
        PostingShelf x = pileOf(1);
        wantEither(x, below);
        wantEither(x, top);
        return x;
    }

    static void wantEither(PostingShelf x, int leaves) {
        x.want(1);
        for (int n = 1; n < leaves; n++) {
            x.want(1 + n % 7);
            x.combine(1);
        }
    }

    /** A rich object whose commit (35 bytes) or merge of the first two segments (43 bytes) was cut by one byte. */
    static PostingShelf afterCut(boolean merges) {
        PostingShelf x = rich();
        x.fail(merges ? 42 : 34);
        int answer = merges ? x.merge(0, 1) : x.commit();
        if (answer != PostingShelf.CUT) {
            throw new AssertionError("answered " + answer + ", but the power fails a byte earlier");
        }
        return x;
    }

    private Settings() {
    }
}
