/** Each promise of the document by itself: ordinary inputs, the edges that it names, wrong inputs. */
public final class PromiseTest {
    private static final int MIN = Integer.MIN_VALUE;
    private static final int MAX = Integer.MAX_VALUE;
    private static final int CUT = PostingShelf.CUT;
    private static final int NONE = PostingShelf.NONE;
    private static final int LIST = Shelf.LIST;

    private static final int BOTH = 0;
    private static final int EITHER = 1;
    private static final int BUT = 2;
    private static final int FOLLOW = 3;

    private static final Check CHECK = new Check();

    public static void main(String[] args) {
        newObject();
        type();
        add();
        addWithKeysThatAreGone();
        delete();
        deleteUntilWritten();
        commit();
        commitPacksSegments();
        commitPacksNumbers();
        commitLeavesSegmentsOut();
        commitRoom();
        commitTenSegments();
        merge();
        mergeKeepsDoomed();
        mergeRoom();
        numbersOfTwoBytes();
        fail();
        failDuringCommit();
        failDuringMerge();
        refusedBeforeCut();
        want();
        combine();
        combineWays();
        combineNear();
        combineLeaves();
        discard();
        count();
        match();
        places();
        documents();
        buffered();
        segments();
        size();
        at();
        free();
        CHECK.end("PromiseTest");
    }

    // Promise 1

    private static void newObject() {
        int[][] rooms = {{MIN, 64}, {-1, 64}, {0, 64}, {63, 64}, {64, 64}, {65, 65}, {300, 300},
            {799, 799}, {800, 800}, {801, 800}, {MAX, 800}};
        for (int[] pair : rooms) {
            CHECK.due("room " + pair[0], () -> new PostingShelf(pair[0]).free(), pair[1]);
        }
        PostingShelf x = new PostingShelf(800);
        CHECK.same("new", Shelf.shown(x), "documents 0 buffered 0 segments 0 free 800 list");
        CHECK.due("new: size(0)", () -> x.size(0), NONE);
        CHECK.due("new: at(-1, 0)", () -> x.at(LIST, 0), NONE);
        CHECK.due("new: at(0, 0)", () -> x.at(0, 0), NONE);
        CHECK.noSuchElement("new: discard", x::discard);
        CHECK.illegalState("new: the draft is empty", () -> x.add(0));
        CHECK.due("new: nothing to commit", x::commit, 0);
        CHECK.same("new: still no list", Shelf.shown(x), "documents 0 buffered 0 segments 0 free 800 list");
        for (int key = 0; key < 12; key++) {
            Shelf.put(x, key, 0, 1, 2, 3, 4, 5, 6, 7);
        }
        CHECK.holds("new: the power does not fail", x.commit() > 0);
    }

    // Promise 2

    private static void type() {
        PostingShelf x = new PostingShelf(300);
        int[] terms = {15, 0, 7, 7, 1, 2, 3, 15};
        for (int i = 0; i < 8; i++) {
            int at = i;
            CHECK.illegalArgument("type(16)", () -> x.type(16));
            CHECK.due("type", () -> x.type(terms[at]), i + 1);
        }
        CHECK.illegalState("type of a ninth", () -> x.type(0));
        int[] wrong = {-1, 16, 17, MIN, MAX};
        for (int t : wrong) {
            CHECK.illegalArgument("type of no term comes first: " + t, () -> x.type(t));
            CHECK.illegalArgument("type of no term: " + t, () -> new PostingShelf(64).type(t));
        }
        CHECK.due("type: add", () -> x.add(9), 1);
        CHECK.due("type: the draft is empty again", () -> x.type(4), 1);
        CHECK.due("type: commit", x::commit, 3 + 6 * 5 + 2 * 1 + 3);
        CHECK.same("type: the order counts", Shelf.bytes(x, 0),
            "1 9 8 0 1 0 1 1 1 1 0 1 4 2 1 0 1 5 3 1 0 1 6 7 1 0 2 2 1 15 1 0 2 0 7");
    }

    // Promise 3

    private static void add() {
        PostingShelf x = new PostingShelf(800);
        CHECK.illegalArgument("add: a wrong key comes first", () -> x.add(-1));
        CHECK.illegalArgument("add: the least key", () -> x.add(MIN));
        CHECK.illegalState("add: an empty draft", () -> x.add(0));
        x.type(3);
        CHECK.illegalArgument("add(-1)", () -> x.add(-1));
        CHECK.due("add: 0 is a key", () -> x.add(0), 1);
        CHECK.illegalState("add: the draft is empty then", () -> x.add(1));
        x.type(4);
        CHECK.illegalArgument("add: the same key", () -> x.add(0));
        for (int n = 2; n <= 12; n++) {
            int key = n * 10;
            CHECK.due("add", () -> x.add(key), n);
            CHECK.illegalArgument("add: an empty draft and a wrong key", () -> x.add(key));
            x.type(5);
            CHECK.illegalArgument("add: a key not greater", () -> x.add(key));
            CHECK.illegalArgument("add: a lesser key", () -> x.add(key - 1));
        }
        CHECK.illegalState("add: a thirteenth", () -> x.add(121));
        CHECK.illegalArgument("add: a thirteenth, and a wrong key", () -> x.add(120));
        CHECK.due("add: still twelve", x::buffered, 12);
        CHECK.due("add: what throws leaves the draft", () -> x.type(6), 2);
        x.commit();
        CHECK.illegalArgument("add: not greater than a segment's key", () -> x.add(120));
        CHECK.due("add: greater than the segments' keys", () -> x.add(121), 1);
        x.type(7);
        CHECK.due("add: the greatest key", () -> x.add(MAX), 2);
        x.type(7);
        CHECK.illegalArgument("add: none is greater", () -> x.add(MAX));
    }

    private static void addWithKeysThatAreGone() {
        PostingShelf x = new PostingShelf(800);
        Shelf.put(x, 5, 1);
        Shelf.put(x, 9, 1);
        x.delete(9);
        x.type(1);
        CHECK.illegalArgument("add: 5 is in the buffer", () -> x.add(5));
        CHECK.due("add: 9 was taken out of the buffer", () -> x.add(9), 2);
        x.commit();
        x.delete(9);
        x.type(1);
        CHECK.illegalArgument("add: 9 is doomed", () -> x.add(9));
        x.commit();
        CHECK.illegalArgument("add: 9 is deleted", () -> x.add(9));
        CHECK.illegalArgument("add: 7 is less than deleted 9", () -> x.add(7));
        CHECK.due("add: 10", () -> x.add(10), 1);
        x.commit();
        x.merge(0, 1);
        x.delete(10);
        x.commit();
        x.type(1);
        CHECK.illegalArgument("add: 10 is deleted", () -> x.add(10));
        x.delete(5);
        x.commit();
        CHECK.due("add: no segment is left", () -> x.add(0), 1);
    }

    // Promise 4

    private static void delete() {
        PostingShelf x = new PostingShelf(800);
        CHECK.due("delete: there is none", () -> Shelf.asInt(x.delete(0)), 0);
        Shelf.put(x, 0, 1);
        Shelf.put(x, 3, 2);
        Shelf.put(x, 8, 3);
        int[] wrong = {-1, 1, 9, MIN, MAX};
        for (int key : wrong) {
            CHECK.due("delete: there is none " + key, () -> Shelf.asInt(x.delete(key)), 0);
        }
        CHECK.due("delete: out of the buffer", () -> Shelf.asInt(x.delete(3)), 1);
        CHECK.due("delete: no more in the buffer", () -> Shelf.asInt(x.delete(3)), 0);
        CHECK.due("delete: two are left", x::buffered, 2);
        CHECK.due("delete: commit", x::commit, 1 + 4 + 2 * 5 + 3);
        CHECK.same("delete: what is left stays in order", Shelf.bytes(x, 0), "2 0 1 8 1 1 1 0 1 0 3 1 1 1 0");
        x.type(1);
        x.delete(0);
        CHECK.due("delete: the draft stays", () -> x.type(1), 2);
    }

    private static void deleteUntilWritten() {
        PostingShelf x = new PostingShelf(800);
        Shelf.put(x, 1, 1);
        Shelf.put(x, 2, 1);
        x.commit();
        String before = Shelf.shown(x);
        CHECK.due("delete: doomed", () -> Shelf.asInt(x.delete(1)), 1);
        CHECK.due("delete: doomed already", () -> Shelf.asInt(x.delete(1)), 0);
        CHECK.same("delete: not yet written", Shelf.shown(x), before);
        CHECK.due("delete: written", x::commit, 4);
        CHECK.due("delete: deleted already", () -> Shelf.asInt(x.delete(1)), 0);
        CHECK.due("delete: nothing to write", x::commit, 0);
        x.delete(2);
        x.fail(0);
        CHECK.due("delete: cut", x::commit, CUT);
        CHECK.due("delete: nothing is doomed then", x::commit, 0);
        CHECK.due("delete: doomed anew", () -> Shelf.asInt(x.delete(2)), 1);
        CHECK.due("delete: what is deleted stays so", () -> Shelf.asInt(x.delete(1)), 0);
    }

    // Promise 5

    private static void commit() {
        PostingShelf x = new PostingShelf(300);
        x.type(4);
        CHECK.due("commit: nothing", x::commit, 0);
        CHECK.due("commit: nothing is written", () -> x.size(LIST), 0);
        CHECK.due("commit: the draft stays", () -> x.type(4), 2);
        x.add(3);
        x.type(5);
        CHECK.due("commit: a segment and a list", x::commit, 9 + 3);
        CHECK.due("commit: the draft stays", () -> x.type(5), 2);
        CHECK.same("commit", Shelf.shown(x), "documents 1 buffered 0 segments 1 free 288 list 1 1 0 | 1 3 2 4 1 0 2 0 1");
        x.add(4);
        CHECK.due("commit: one more", x::commit, 9 + 5);
        CHECK.same("commit: behind the others", Shelf.shown(x), "documents 2 buffered 0 segments 2 free 277"
            + " list 2 1 0 2 0 | 1 3 2 4 1 0 2 0 1 | 1 4 2 5 1 0 2 0 1");
        CHECK.due("commit: nothing more", x::commit, 0);
        Shelf.put(x, 5, 6);
        x.delete(5);
        CHECK.due("commit: the buffer is empty again", x::commit, 0);
        Shelf.put(x, 5, 6);
        Shelf.put(x, 6, 6);
        x.commit();
        x.delete(6);
        Shelf.put(x, 7, 6);
        CHECK.due("commit: doomed ones and a new segment", x::commit, 8 + 10);
        CHECK.same("commit: the list says both", Shelf.bytes(x, LIST), "4 1 0 2 0 3 1 1 4 0");
    }

    private static void commitPacksSegments() {
        PostingShelf x = new PostingShelf(800);
        Shelf.put(x, 5, 3, 4, 3);
        Shelf.put(x, 300, 4);
        Shelf.put(x, 301, 3, 3, 3, 3, 3, 3, 3, 3);
        Shelf.put(x, 400, 15, 0);
        Shelf.put(x, 401, 4, 1, 1, 4);
        CHECK.due("commit: packed", x::commit, 56 + 3);
        CHECK.same("commit: packed", Shelf.bytes(x, 0), "5 5 3 167 2 1 1 8 99 2 1 4"
            + " 0 1 3 1 1"
            + " 1 1 4 2 1 1"
            + " 3 2 0 2 0 2 2 8 0 1 1 1 1 1 1 1"
            + " 4 3 0 1 1 1 1 0 3 2 0 3"
            + " 15 1 3 1 0");
        x.delete(300);
        x.delete(401);
        x.delete(301);
        CHECK.due("commit: deleted ones", x::commit, 6);
        CHECK.same("commit: ordinals as a row", Shelf.bytes(x, LIST), "1 1 3 1 1 2");
        x.delete(5);
        CHECK.due("commit: one more of them", x::commit, 7);
        CHECK.same("commit: ordinals from 0", Shelf.bytes(x, LIST), "1 1 4 0 1 1 2");
    }

    private static void commitPacksNumbers() {
        int[] keys = {127, 255, 16638, 33022, 2130173, 4227325, 272662780, MAX};
        PostingShelf x = new PostingShelf(800);
        for (int key : keys) {
            Shelf.put(x, key, 0);
        }
        CHECK.holds("commit: large numbers", x.commit() > 0);
        CHECK.holds("commit: 127, 128, 16383, 16384, 2097151, 2097152, 268435455, the rest",
            Shelf.bytes(x, 0).startsWith("8 127 1 128 1 1 255 127 1 128 128 1 1 255 255 127 1 128 128 128 1 1"
                + " 255 255 255 127 1 131 254 253 253 6 1 0 8 "));
        PostingShelf y = new PostingShelf(64);
        Shelf.put(y, MAX, 0);
        y.commit();
        CHECK.same("commit: the greatest key", Shelf.bytes(y, 0), "1 255 255 255 255 7 1 0 1 0 1 0");
        PostingShelf z = new PostingShelf(64);
        Shelf.put(z, 268435456, 0);
        z.commit();
        CHECK.same("commit: the least of five bytes", Shelf.bytes(z, 0), "1 128 128 128 128 1 1 0 1 0 1 0");
    }

    private static void commitLeavesSegmentsOut() {
        PostingShelf x = new PostingShelf(800);
        for (int key = 1; key <= 3; key++) {
            Shelf.put(x, key, 2);
            x.commit();
        }
        x.delete(2);
        CHECK.due("commit: a segment left out", x::commit, 5);
        CHECK.same("commit: it is gone", Shelf.shown(x), "documents 2 buffered 0 segments 2 free 779"
            + " list 2 1 0 3 0 | 1 1 1 2 1 0 1 0 | 1 3 1 2 1 0 1 0");
        x.delete(1);
        x.delete(3);
        Shelf.put(x, 4, 2);
        CHECK.due("commit: all but the new one", x::commit, 8 + 3);
        CHECK.same("commit: numbers go on", Shelf.bytes(x, LIST), "1 4 0");
        x.delete(4);
        CHECK.due("commit: none is left", x::commit, 1);
        CHECK.same("commit: an empty list has a byte", Shelf.shown(x), "documents 0 buffered 0 segments 0 free 799 list 0");
        CHECK.due("commit: nothing to write", x::commit, 0);
        Shelf.put(x, 0, 2);
        x.commit();
        CHECK.same("commit: a list without segment uses no number", Shelf.bytes(x, LIST), "1 5 0");
    }

    private static void commitRoom() {
        PostingShelf fits = Shelf.ofSegments(72, 5);
        CHECK.due("commit: fits beside what is used", () -> Shelf.commitOne(fits, 6), 8 + 13);
        CHECK.due("commit: the old list is gone", fits::free, 72 - 6 * 8 - 13);
        PostingShelf full = Shelf.ofSegments(71, 5);
        CHECK.illegalState("commit: one byte too much", () -> Shelf.commitOne(full, 6));
        PostingShelf x = Shelf.ofSegments(69, 5);
        Shelf.put(x, 6, 1);
        x.type(9);
        x.delete(1);
        String before = Shelf.shown(x);
        CHECK.illegalState("commit: what is left out is still used", x::commit);
        CHECK.same("commit: what throws leaves everything", Shelf.shown(x), before);
        CHECK.due("commit: the draft too", () -> x.type(9), 2);
        CHECK.due("commit: 1 is still doomed", () -> Shelf.asInt(x.delete(1)), 0);
        x.delete(6);
        CHECK.due("commit: the list alone finds room", x::commit, 9);
        CHECK.due("commit: a segment is gone", x::free, 69 - 4 * 8 - 9);
        x.add(7);
        CHECK.due("commit: and now there is room", x::commit, 9 + 11);
        CHECK.same("commit: what throws uses no number", Shelf.bytes(x, LIST), "5 2 0 3 0 4 0 5 0 6 0");
    }

    private static void commitTenSegments() {
        PostingShelf x = new PostingShelf(800);
        for (int key = 1; key <= 10; key++) {
            Shelf.commitOne(x, key);
        }
        CHECK.due("commit: ten segments", x::segments, 10);
        Shelf.put(x, 11, 1);
        String before = Shelf.shown(x);
        CHECK.illegalState("commit: an eleventh", x::commit);
        CHECK.same("commit: what throws leaves everything", Shelf.shown(x), before);
        x.fail(0);
        CHECK.illegalState("commit: an eleventh, before the power is looked at", x::commit);
        x.fail(MAX);
        x.delete(4);
        CHECK.due("commit: one goes, one comes", x::commit, 8 + 21);
        CHECK.due("commit: ten again", x::segments, 10);
        CHECK.same("commit: in order", Shelf.bytes(x, LIST), "10 1 0 2 0 3 0 5 0 6 0 7 0 8 0 9 0 10 0 11 0");
        x.delete(1);
        CHECK.due("commit: with ten segments", x::commit, 19);
    }

    // Promise 6

    private static void merge() {
        PostingShelf x = new PostingShelf(800);
        CHECK.illegalArgument("merge: no segments", () -> x.merge(0, 1));
        CHECK.illegalArgument("merge: no segments", () -> x.merge(0, 0));
        for (int key = 1; key <= 4; key++) {
            Shelf.put(x, key * 10, key, 9);
            Shelf.put(x, key * 10 + 1, 9, 9);
            x.commit();
        }
        x.delete(20);
        x.delete(31);
        x.commit();
        x.type(5);
        Shelf.put(x, 99, 6);
        x.type(7);
        String before = Shelf.shown(x);
        int[][] wrong = {{-1, 1}, {MIN, MAX}, {0, 4}, {0, MAX}, {1, 1}, {2, 1}, {3, 4}, {0, -1}, {-2, -1}, {4, 5}, {0, 0}, {3, 3}};
        for (int[] pair : wrong) {
            CHECK.illegalArgument("merge " + pair[0] + " " + pair[1], () -> x.merge(pair[0], pair[1]));
        }
        CHECK.same("merge: what throws leaves everything", Shelf.shown(x), before);
        CHECK.due("merge", () -> x.merge(1, 2), 19 + 7);
        CHECK.same("merge: in their place, without deleted ones", Shelf.bytes(x, 1), "2 21 2 9 2 3 1 1 1 0 9 2 0 2 0 1 1 1 1");
        CHECK.same("merge: a new list", Shelf.bytes(x, LIST), "3 1 0 5 0 4 0");
        CHECK.due("merge: documents", x::documents, 6);
        CHECK.due("merge: the buffer stays", x::buffered, 1);
        CHECK.due("merge: the draft stays", () -> x.type(7), 2);
        x.delete(10);
        x.delete(99);
        x.commit();
        CHECK.due("merge: others keep their deleted ones", () -> x.merge(1, 2), 35 + 6);
        CHECK.same("merge: the list", Shelf.bytes(x, LIST), "2 1 1 0 6 0");
        CHECK.due("merge: all", () -> x.merge(0, 1), 41 + 3);
        CHECK.same("merge: all", Shelf.shown(x), "documents 5 buffered 0 segments 1 free 756 list 1 7 0"
            + " | 5 11 2 10 2 9 2 10 2 1 2 3 1 2 1 0 4 1 3 1 0 9 5 0 2 0 1 1 2 0 1 1 1 1 1 1 1 1 2 0 1");
    }

    private static void mergeKeepsDoomed() {
        PostingShelf x = new PostingShelf(800);
        Shelf.put(x, 1, 2);
        Shelf.put(x, 2, 2);
        x.commit();
        Shelf.put(x, 3, 2);
        x.commit();
        x.want(2);
        x.delete(1);
        CHECK.due("merge: doomed ones are written", () -> x.merge(0, 1), 18 + 3);
        CHECK.same("merge: all three", Shelf.shown(x), "documents 3 buffered 0 segments 1 free 779 list 1 3 0"
            + " | 3 1 1 1 1 1 1 2 3 0 1 0 1 1 0 1 1 0");
        CHECK.due("merge: found while doomed", x::count, 3);
        CHECK.due("merge: doomed ones stay doomed", () -> Shelf.asInt(x.delete(1)), 0);
        CHECK.due("merge: until a commit", x::commit, 4);
        CHECK.same("merge: deleted then", Shelf.bytes(x, LIST), "1 3 1 0");
        CHECK.due("merge: found no more", x::count, 2);
        Shelf.put(x, 4, 2);
        x.commit();
        x.delete(2);
        x.delete(3);
        x.delete(4);
        CHECK.due("merge: all are doomed", () -> x.merge(0, 1), 18 + 3);
        CHECK.due("merge: all are there", x::documents, 3);
        CHECK.due("merge: a commit leaves them out", x::commit, 1);
        CHECK.due("merge: none is there", x::segments, 0);
        PostingShelf y = Shelf.ofSegments(800, 5);
        y.delete(1);
        y.delete(5);
        CHECK.due("merge: doomed ones before and behind it", () -> y.merge(1, 2), 13 + 9);
        CHECK.same("merge: they stay", Shelf.bytes(y, LIST), "4 1 0 6 0 4 0 5 0");
        CHECK.due("merge: a commit leaves them out", y::commit, 5);
        CHECK.same("merge: they are gone", Shelf.bytes(y, LIST), "2 6 0 4 0");
    }

    private static void mergeRoom() {
        PostingShelf fits = Shelf.ofSegments(73, 5);
        CHECK.due("merge: fits beside what is used", () -> fits.merge(0, 1), 13 + 9);
        CHECK.due("merge: the old ones are gone", fits::free, 73 - 13 - 3 * 8 - 9);
        CHECK.same("merge: the last number", Shelf.bytes(fits, LIST), "4 6 0 3 0 4 0 5 0");
        PostingShelf all = Shelf.ofSegments(82, 5);
        CHECK.due("merge: all five fit", () -> all.merge(0, 4), 28 + 3);
        CHECK.illegalState("merge: all five do not", () -> Shelf.ofSegments(81, 5).merge(0, 4));
        PostingShelf x = Shelf.ofSegments(72, 5);
        x.type(3);
        x.delete(2);
        String before = Shelf.shown(x);
        CHECK.illegalState("merge: one byte too much", () -> x.merge(0, 1));
        x.fail(0);
        CHECK.illegalState("merge: room comes before power", () -> x.merge(0, 1));
        CHECK.illegalArgument("merge: places come before room", () -> x.merge(0, 5));
        CHECK.same("merge: what throws leaves everything", Shelf.shown(x), before);
        CHECK.due("merge: the draft stays", () -> x.type(3), 2);
        CHECK.due("merge: doomed stays doomed", () -> Shelf.asInt(x.delete(2)), 0);
        CHECK.due("merge: the power still fails", x::commit, CUT);
    }

    private static void numbersOfTwoBytes() {
        PostingShelf x = new PostingShelf(800);
        Shelf.commitOne(x, 1);
        for (int key = 2; key <= 64; key++) {
            Shelf.commitOne(x, key);
            x.merge(0, 1);
        }
        CHECK.same("numbers: one byte", Shelf.bytes(x, LIST), "1 127 0");
        CHECK.due("numbers: two bytes", () -> Shelf.commitOne(x, 65), 8 + 6);
        CHECK.same("numbers: two bytes", Shelf.bytes(x, LIST), "2 127 0 128 1 0");
        CHECK.due("numbers: the next", () -> x.merge(0, 1), 328 + 4);
        CHECK.same("numbers: the next", Shelf.bytes(x, LIST), "1 129 1 0");
    }

    // Promise 7

    private static void fail() {
        PostingShelf x = new PostingShelf(800);
        CHECK.due("fail(-1)", () -> Shelf.asInt(x.fail(-1)), 0);
        CHECK.due("fail of the least", () -> Shelf.asInt(x.fail(MIN)), 0);
        CHECK.due("fail: it does not", () -> Shelf.commitOne(x, 1), 11);
        CHECK.due("fail(0)", () -> Shelf.asInt(x.fail(0)), 1);
        CHECK.due("fail: nothing is written", x::commit, 0);
        CHECK.due("fail: at once", () -> Shelf.commitOne(x, 2), CUT);
        CHECK.due("fail: not again", () -> Shelf.commitOne(x, 2), 13);
        CHECK.due("fail(14)", () -> Shelf.asInt(x.fail(14)), 1);
        CHECK.due("fail(-1) changes nothing", () -> Shelf.asInt(x.fail(-1)), 0);
        CHECK.due("fail: one byte too early", () -> Shelf.commitOne(x, 3), CUT);
        x.fail(15);
        CHECK.due("fail: just enough", () -> Shelf.commitOne(x, 3), 15);
        CHECK.due("fail: nothing is left", () -> Shelf.commitOne(x, 4), CUT);
        x.fail(3);
        CHECK.due("fail: in place of what was said", () -> Shelf.asInt(x.fail(MAX)), 1);
        CHECK.due("fail: enough", () -> Shelf.commitOne(x, 4), 17);
        x.fail(19 + 21);
        CHECK.due("fail: n less so many", () -> Shelf.commitOne(x, 5), 19);
        CHECK.due("fail: down to 0", () -> Shelf.commitOne(x, 6), 21);
        CHECK.due("fail: and no further", () -> x.merge(0, 1), CUT);
        x.fail(13 + 11 + 18);
        CHECK.due("fail: a merge takes from it too", () -> x.merge(0, 1), 13 + 11);
        CHECK.due("fail: so that one is missing", () -> Shelf.commitOne(x, 7), CUT);
        CHECK.due("fail: and not again", () -> Shelf.commitOne(x, 7), 8 + 13);
    }

    private static void failDuringCommit() {
        PostingShelf x = Shelf.ofSegments(800, 5);
        Shelf.put(x, 6, 1, 2);
        Shelf.put(x, 7, 1);
        x.commit();
        x.delete(7);
        x.commit();
        x.want(1);
        x.want(2);
        String before = Shelf.shown(x);
        Shelf.put(x, 8, 3);
        x.delete(1);
        x.delete(6);
        x.type(4);
        x.fail(10);
        CHECK.due("cut: a commit", x::commit, CUT);
        CHECK.same("cut: the segments and the list stay", Shelf.shown(x), before);
        CHECK.illegalState("cut: the draft is empty", () -> x.add(8));
        CHECK.due("cut: nothing is there to write", x::commit, 0);
        CHECK.due("cut: the pile stays", () -> x.combine(BOTH), 1);
        CHECK.due("cut: queries see what stayed", x::count, 1);
        CHECK.due("cut: 1 is not doomed", () -> Shelf.asInt(x.delete(1)), 1);
        CHECK.due("cut: 7 is still deleted", () -> Shelf.asInt(x.delete(7)), 0);
        CHECK.due("cut: 8 is no key yet", () -> Shelf.commitOne(x, 8), 8 + 14);
        CHECK.same("cut: no number is used up", Shelf.bytes(x, LIST), "6 2 0 3 0 4 0 5 0 6 1 1 7 0");
    }

    private static void failDuringMerge() {
        PostingShelf x = Shelf.ofSegments(800, 5);
        x.want(1);
        String before = Shelf.shown(x);
        Shelf.put(x, 8, 3);
        x.delete(2);
        x.type(4);
        x.fail(13 + 9 - 1);
        CHECK.due("cut: a merge", () -> x.merge(0, 1), CUT);
        CHECK.same("cut: the segments and the list stay, the buffer is empty", Shelf.shown(x), before);
        CHECK.illegalState("cut: the draft is empty", () -> x.add(9));
        CHECK.due("cut: nothing is doomed", x::commit, 0);
        CHECK.due("cut: the pile stays", x::count, 5);
        CHECK.due("cut: 2 is not doomed", () -> Shelf.asInt(x.delete(2)), 1);
        CHECK.due("cut: not again", () -> x.merge(0, 1), 13 + 9);
        CHECK.same("cut: no number is used up", Shelf.bytes(x, LIST), "4 6 0 3 0 4 0 5 0");
        x.fail(13 + 7);
        CHECK.due("cut: just enough for a merge", () -> x.merge(1, 2), 13 + 7);
    }

    private static void refusedBeforeCut() {
        PostingShelf x = Shelf.ofSegments(71, 5);
        Shelf.put(x, 6, 1);
        x.fail(5);
        CHECK.illegalState("cut: room comes before power", x::commit);
        CHECK.due("cut: the buffer stays", x::buffered, 1);
        x.delete(1);
        CHECK.due("cut: the power still fails", x::commit, CUT);
        CHECK.due("cut: the buffer is empty", x::buffered, 0);
    }

    // Promise 8

    private static void want() {
        PostingShelf x = new PostingShelf(800);
        int[] wrong = {-1, 16, MIN, MAX};
        for (int n = 1; n <= 8; n++) {
            int t = n * 2 - 1;
            CHECK.due("want", () -> x.want(t), n);
            CHECK.illegalArgument("want(16)", () -> x.want(16));
        }
        CHECK.illegalState("want: a ninth", () -> x.want(0));
        for (int t : wrong) {
            CHECK.illegalArgument("want: no term comes first " + t, () -> x.want(t));
        }
        Shelf.put(x, 1, 15, 0, 15, 13);
        x.commit();
        CHECK.due("want: holds at the places of the term", () -> x.places(1), 1 + 4);
        CHECK.due("want: what throws leaves the pile", x::discard, 7);
        CHECK.due("want: the one below", () -> x.places(1), 8);
        CHECK.due("want: of the least term", () -> x.want(0), 8);
        CHECK.due("want: of the least term", () -> x.places(1), 2);
    }

    // Promise 9

    private static void combine() {
        PostingShelf x = new PostingShelf(800);
        int[] wrong = {-1, 11, 12, MIN, MAX};
        for (int height = 0; height < 3; height++) {
            for (int what : wrong) {
                CHECK.illegalArgument("combine: no way " + what, () -> x.combine(what));
            }
            for (int what = 0; what <= 10 && height < 2; what++) {
                int way = what;
                CHECK.noSuchElement("combine: fewer than two", () -> x.combine(way));
            }
            x.want(height);
        }
        CHECK.due("combine", () -> x.combine(0), 2);
        CHECK.due("combine", () -> x.combine(10), 1);
        CHECK.noSuchElement("combine: one is left", () -> x.combine(0));
        CHECK.due("combine: it is one query", x::discard, 0);
    }

    private static void combineWays() {
        PostingShelf x = new PostingShelf(800);
        Shelf.put(x, 1, 1, 2, 1, 3);
        Shelf.put(x, 2, 1);
        Shelf.put(x, 3, 2, 1);
        Shelf.put(x, 4, 3, 3);
        Shelf.put(x, 5, 2);
        Shelf.put(x, 6, 5, 5, 5, 5, 5, 5, 5, 5);
        x.commit();
        way(x, 1, 2, BOTH, "7 0 3 0 0 0");
        way(x, 2, 1, BOTH, "7 0 3 0 0 0");
        way(x, 1, 2, EITHER, "7 1 3 0 1 0");
        way(x, 3, 1, EITHER, "13 1 2 3 0 0");
        way(x, 1, 2, BUT, "0 1 0 0 0 0");
        way(x, 2, 1, BUT, "0 0 0 0 1 0");
        way(x, 3, 7, BUT, "8 0 0 3 0 0");
        way(x, 7, 3, BUT, "0 0 0 0 0 0");
        way(x, 1, 2, FOLLOW, "2 0 0 0 0 0");
        way(x, 2, 1, FOLLOW, "4 0 2 0 0 0");
        way(x, 3, 3, FOLLOW, "0 0 0 2 0 0");
        way(x, 5, 5, FOLLOW, "0 0 0 0 0 254");
        x.want(1);
        x.want(2);
        x.combine(FOLLOW);
        x.want(1);
        x.combine(FOLLOW);
        x.want(3);
        CHECK.due("combine: a pair below", () -> x.combine(FOLLOW), 1);
        CHECK.same("combine: a phrase of four", placesOfSix(x), "8 0 0 0 0 0");
        x.want(2);
        x.want(3);
        x.want(1);
        x.combine(BUT);
        CHECK.same("combine: 3 but 1", placesOfSix(x), "0 0 0 3 0 0");
        x.combine(EITHER);
        CHECK.same("combine: 2, or 3 but 1", placesOfSix(x), "2 0 1 3 1 0");
        CHECK.due("combine: a pair on top", () -> x.combine(BOTH), 1);
        CHECK.same("combine: both pairs", placesOfSix(x), "10 0 0 0 0 0");
    }

    private static void combineNear() {
        PostingShelf x = new PostingShelf(800);
        Shelf.put(x, 1, 1, 0, 0, 0, 2, 0, 0, 1);
        Shelf.put(x, 2, 2, 2);
        Shelf.put(x, 3, 1, 2);
        Shelf.put(x, 4, 2, 9, 1);
        Shelf.put(x, 5, 1, 9, 9, 2, 2);
        Shelf.put(x, 6, 2);
        x.commit();
        int near = 3;
        way(x, 1, 2, near + 1, "0 0 2 0 0 0");
        way(x, 1, 2, near + 2, "0 0 2 1 0 0");
        way(x, 1, 2, near + 3, "16 0 2 1 8 0");
        way(x, 1, 2, near + 4, "16 0 2 1 24 0");
        way(x, 2, 1, near + 2, "0 0 1 4 0 0");
        way(x, 2, 1, near + 3, "128 0 1 4 1 0");
        way(x, 2, 1, near + 4, "129 0 1 4 1 0");
        way(x, 1, 1, near + 6, "0 0 0 0 0 0");
        way(x, 1, 1, near + 7, "129 0 0 0 0 0");
        way(x, 2, 2, near + 1, "0 3 0 0 24 0");
        way(x, 2, 2, near + 7, "0 3 0 0 24 0");
    }

    private static void combineLeaves() {
        PostingShelf x = new PostingShelf(800);
        for (int t = 0; t < 8; t++) {
            x.want(t);
        }
        for (int height = 7; height >= 1; height--) {
            int due = height;
            CHECK.due("combine: up to eight leaves", () -> x.combine(EITHER), due);
        }
        x.want(8);
        CHECK.illegalState("combine: nine leaves", () -> x.combine(EITHER));
        CHECK.illegalArgument("combine: nine leaves and no way", () -> x.combine(11));
        Shelf.put(x, 1, 8, 0, 8, 7);
        x.commit();
        CHECK.due("combine: what throws leaves the top", () -> x.places(1), 5);
        CHECK.due("combine: what throws leaves the pile", x::discard, 1);
        CHECK.due("combine: and the one below", () -> x.places(1), 2 + 8);
        PostingShelf y = new PostingShelf(800);
        for (int part = 0; part < 2; part++) {
            for (int t = 0; t < 4; t++) {
                y.want(t);
            }
            for (int t = 0; t < 3; t++) {
                y.combine(EITHER);
            }
        }
        y.want(5);
        y.combine(EITHER);
        CHECK.illegalState("combine: four and five leaves", () -> y.combine(BOTH));
        CHECK.due("combine: two lie there", y::discard, 1);
    }

    // Promise 10

    private static void discard() {
        PostingShelf x = new PostingShelf(800);
        CHECK.noSuchElement("discard: none", x::discard);
        x.want(1);
        x.want(2);
        x.want(3);
        Shelf.put(x, 1, 1, 2, 3);
        x.commit();
        CHECK.due("discard", x::discard, 2);
        CHECK.due("discard: the top one goes", () -> x.places(1), 2);
        CHECK.due("discard", x::discard, 1);
        CHECK.due("discard: the top one goes", () -> x.places(1), 1);
        CHECK.due("discard", x::discard, 0);
        CHECK.noSuchElement("discard: none again", x::discard);
        CHECK.due("discard: room again", () -> x.want(4), 1);
    }

    // Promise 11

    private static void count() {
        PostingShelf x = new PostingShelf(800);
        CHECK.noSuchElement("count: no query", x::count);
        x.want(1);
        CHECK.due("count: no document", x::count, 0);
        Shelf.put(x, 1, 1);
        Shelf.put(x, 2, 2);
        Shelf.put(x, 3, 1, 1, 2);
        CHECK.due("count: not the buffer's", x::count, 0);
        x.commit();
        CHECK.due("count: after the commit", x::count, 2);
        Shelf.put(x, 4, 3, 1);
        x.commit();
        CHECK.due("count: in all segments", x::count, 3);
        x.delete(3);
        CHECK.due("count: doomed ones too", x::count, 3);
        x.commit();
        CHECK.due("count: not deleted ones", x::count, 2);
        x.merge(0, 1);
        CHECK.due("count: after a merge", x::count, 2);
        x.want(9);
        CHECK.due("count: the top query", x::count, 0);
        x.combine(BUT);
        CHECK.due("count: a pair", x::count, 2);
        x.discard();
        CHECK.noSuchElement("count: no query is left", x::count);
    }

    // Promise 12

    private static void match() {
        PostingShelf x = new PostingShelf(800);
        CHECK.noSuchElement("match: no query", () -> x.match(0));
        Shelf.put(x, 3, 1);
        Shelf.put(x, 5, 2);
        x.commit();
        Shelf.put(x, 70, 1);
        Shelf.put(x, 71, 1);
        x.commit();
        Shelf.put(x, 99, 1);
        CHECK.noSuchElement("match: no query", () -> x.match(0));
        x.want(1);
        CHECK.due("match(0)", () -> x.match(0), 3);
        CHECK.due("match(1)", () -> x.match(1), 70);
        CHECK.due("match(2)", () -> x.match(2), 71);
        int[] wrong = {-1, 3, 4, MIN, MAX};
        for (int i : wrong) {
            CHECK.noSuchElement("match: no such document " + i, () -> x.match(i));
        }
        x.delete(3);
        x.delete(70);
        CHECK.due("match: doomed ones too", () -> x.match(1), 70);
        x.commit();
        CHECK.due("match: not deleted ones", () -> x.match(0), 71);
        CHECK.due("match: the buffer was written", () -> x.match(1), 99);
        x.want(2);
        CHECK.due("match: the top query", () -> x.match(0), 5);
        CHECK.noSuchElement("match: the top query", () -> x.match(1));
    }

    // Promise 13

    private static void places() {
        PostingShelf x = new PostingShelf(800);
        CHECK.noSuchElement("places: no query", () -> x.places(1));
        Shelf.put(x, 0, 1, 2, 2, 2, 2, 2, 2, 1);
        Shelf.put(x, 4, 2);
        CHECK.noSuchElement("places: no query", () -> x.places(0));
        x.want(1);
        CHECK.due("places: in the buffer", () -> x.places(0), NONE);
        x.commit();
        CHECK.due("places: the first and the last", () -> x.places(0), 129);
        CHECK.due("places: nowhere", () -> x.places(4), 0);
        int[] wrong = {-1, 1, 3, 5, MIN, MAX};
        for (int key : wrong) {
            CHECK.due("places: no document " + key, () -> x.places(key), NONE);
        }
        Shelf.put(x, 5, 1);
        CHECK.due("places: in the buffer", () -> x.places(5), NONE);
        x.delete(0);
        CHECK.due("places: doomed", () -> x.places(0), 129);
        x.commit();
        CHECK.due("places: deleted", () -> x.places(0), NONE);
        CHECK.due("places: in a later segment", () -> x.places(5), 1);
        x.merge(0, 1);
        CHECK.due("places: after a merge", () -> x.places(5), 1);
        CHECK.due("places: gone", () -> x.places(0), NONE);
    }

    // Promises 14 to 16

    private static void documents() {
        PostingShelf x = new PostingShelf(800);
        Shelf.put(x, 1, 1);
        Shelf.put(x, 2, 1);
        CHECK.due("documents: not the buffer's", x::documents, 0);
        x.commit();
        CHECK.due("documents", x::documents, 2);
        Shelf.put(x, 3, 1);
        x.commit();
        CHECK.due("documents: of all segments", x::documents, 3);
        x.delete(1);
        CHECK.due("documents: doomed ones too", x::documents, 3);
        x.commit();
        CHECK.due("documents: not deleted ones", x::documents, 2);
        x.merge(0, 1);
        CHECK.due("documents: after a merge", x::documents, 2);
        x.delete(2);
        x.delete(3);
        x.commit();
        CHECK.due("documents: none", x::documents, 0);
    }

    private static void buffered() {
        PostingShelf x = new PostingShelf(800);
        CHECK.due("buffered: none", x::buffered, 0);
        x.type(1);
        CHECK.due("buffered: not the draft", x::buffered, 0);
        x.add(1);
        Shelf.put(x, 2, 1);
        CHECK.due("buffered", x::buffered, 2);
        x.delete(1);
        CHECK.due("buffered: one was taken out", x::buffered, 1);
        x.commit();
        CHECK.due("buffered: all are written", x::buffered, 0);
        Shelf.put(x, 3, 1);
        x.delete(2);
        CHECK.due("buffered: doomed ones are not there", x::buffered, 1);
    }

    private static void segments() {
        PostingShelf x = new PostingShelf(800);
        CHECK.due("segments: none", x::segments, 0);
        Shelf.put(x, 1, 1);
        CHECK.due("segments: not the buffer", x::segments, 0);
        x.commit();
        CHECK.due("segments", x::segments, 1);
        x.commit();
        CHECK.due("segments: nothing new", x::segments, 1);
        Shelf.commitOne(x, 2);
        Shelf.commitOne(x, 3);
        CHECK.due("segments", x::segments, 3);
        x.merge(0, 1);
        CHECK.due("segments: merged", x::segments, 2);
        x.delete(3);
        CHECK.due("segments: doomed", x::segments, 2);
        x.commit();
        CHECK.due("segments: left out", x::segments, 1);
    }

    // Promises 17 to 19

    private static void size() {
        PostingShelf x = new PostingShelf(800);
        CHECK.due("size: no list", () -> x.size(LIST), 0);
        CHECK.due("size: no segment", () -> x.size(0), NONE);
        Shelf.put(x, 1, 1, 2);
        x.commit();
        Shelf.commitOne(x, 200);
        CHECK.due("size of the list", () -> x.size(LIST), 5);
        CHECK.due("size of the first", () -> x.size(0), 13);
        CHECK.due("size of the second", () -> x.size(1), 9);
        int[] wrong = {-2, -3, 2, 3, MIN, MAX};
        for (int s : wrong) {
            CHECK.due("size: no segment " + s, () -> x.size(s), NONE);
            CHECK.due("at: no segment " + s, () -> x.at(s, 0), NONE);
        }
        x.delete(1);
        x.delete(200);
        x.commit();
        CHECK.due("size of an empty list", () -> x.size(LIST), 1);
        CHECK.due("size: no segment again", () -> x.size(0), NONE);
    }

    private static void at() {
        PostingShelf x = new PostingShelf(800);
        CHECK.due("at: no list", () -> x.at(LIST, 0), NONE);
        Shelf.put(x, 200, 7);
        x.commit();
        int[] segment = {1, 200, 1, 1, 7, 1, 0, 1, 0};
        int[] list = {1, 1, 0};
        int[] wrong = {-1, -2, MIN, MAX};
        for (int k = 0; k < segment.length; k++) {
            int place = k;
            CHECK.due("at(0, k)", () -> x.at(0, place), segment[k]);
        }
        for (int k = 0; k < list.length; k++) {
            int place = k;
            CHECK.due("at(-1, k)", () -> x.at(LIST, place), list[k]);
        }
        CHECK.due("at: behind the segment", () -> x.at(0, 9), NONE);
        CHECK.due("at: behind the list", () -> x.at(LIST, 3), NONE);
        for (int k : wrong) {
            CHECK.due("at: no byte of the segment " + k, () -> x.at(0, k), NONE);
            CHECK.due("at: no byte of the list " + k, () -> x.at(LIST, k), NONE);
        }
        x.delete(200);
        x.commit();
        CHECK.due("at: a shorter list", () -> x.at(LIST, 0), 0);
        CHECK.due("at: behind a shorter list", () -> x.at(LIST, 1), NONE);
        CHECK.due("at: no segment", () -> x.at(0, 0), NONE);
    }

    private static void free() {
        PostingShelf x = new PostingShelf(100);
        Shelf.put(x, 1, 1, 2, 3);
        CHECK.due("free: the buffer uses nothing", x::free, 100);
        x.commit();
        CHECK.due("free: a segment and a list", x::free, 100 - 18 - 3);
        Shelf.commitOne(x, 2);
        CHECK.due("free: two segments and a list", x::free, 100 - 18 - 8 - 5);
        x.merge(0, 1);
        CHECK.due("free: after a merge", x::free, 100 - 23 - 3);
        x.delete(1);
        CHECK.due("free: doomed", x::free, 100 - 23 - 3);
        x.commit();
        CHECK.due("free: deleted", x::free, 100 - 23 - 4);
        x.delete(2);
        x.commit();
        CHECK.due("free: none is left", x::free, 99);
    }

    // Helpers

    /** Combines two terms, checks where that holds in the documents 1 to 6, and takes it away again. */
    private static void way(PostingShelf x, int below, int top, int what, String due) {
        x.want(below);
        x.want(top);
        x.combine(what);
        CHECK.same("combine " + below + " and " + top + " by " + what, placesOfSix(x), due);
        x.discard();
    }

    private static String placesOfSix(PostingShelf x) {
        StringBuilder text = new StringBuilder();
        for (int key = 1; key <= 6; key++) {
            text.append(key == 1 ? "" : " ").append(x.places(key));
        }
        return text.toString();
    }
}
