/** The promises 14 to 19: what is told without a change. */
final class EdgesOfLooks {
    private static final int MIN = Integer.MIN_VALUE;
    private static final int MAX = Integer.MAX_VALUE;
    private static final int LIST = Shelf.LIST;

    static void tell(Sentences all) {
        all.in("Promise 14: documents");
        all.test("How many documents are in segments and not deleted (doomed ones included).", EdgesOfLooks::documents);
        all.in("Promise 15: buffered");
        all.test("How many documents are in the buffer.", EdgesOfLooks::buffered);
        all.in("Promise 16: segments");
        all.test("How many segments there are.", EdgesOfLooks::segments);
        all.in("Promise 17: size");
        all.test("How many bytes segment s (by its place in the order) has;", EdgesOfLooks::sizeOfSegment);
        all.test("of the list for s = -1.", EdgesOfLooks::sizeOfList);
        all.test("NONE when there is no such segment.", EdgesOfLooks::sizeOfNone);
        all.in("Promise 18: at");
        all.test("Byte k (from 0) of segment s, or of the list for s = -1, as 0 .. 255;", EdgesOfLooks::at);
        all.test("NONE when there is none.", EdgesOfLooks::atOfNone);
        all.in("Promise 19: free");
        all.test("ROOM less what is used.", EdgesOfLooks::free);
    }

    private static void documents(Check check) {
        Twins.unchanged(check, "not the buffer's, nor deleted ones, but a doomed one", "5", Settings::rich,
            PostingShelf::documents);
        check.due("a new object", () -> new PostingShelf(64).documents(), 0);
        PostingShelf x = new PostingShelf(800);
        for (int key = 1; key <= 12; key++) {
            Shelf.put(x, key, 1);
        }
        check.due("none is written", x::documents, 0);
        x.commit();
        check.due("all", x::documents, 12);
        for (int key = 1; key <= 12; key++) {
            x.delete(key);
        }
        check.due("all are doomed", x::documents, 12);
        x.commit();
        check.due("all are deleted", x::documents, 0);
    }

    private static void buffered(Check check) {
        Twins.unchanged(check, "the buffer's", "2", Settings::rich, PostingShelf::buffered);
        Twins.unchanged(check, "all that can be", "12", Settings::fullBuffer, PostingShelf::buffered);
        check.due("a new object", () -> new PostingShelf(64).buffered(), 0);
        PostingShelf x = Settings.fullBuffer();
        x.commit();
        check.due("written", x::buffered, 0);
        check.due("refused and still there", () -> refusedBuffer(), 1);
        check.due("cut", () -> Settings.afterCut(false).buffered(), 0);
    }

    private static int refusedBuffer() {
        PostingShelf x = Settings.noRoomToCommit();
        Check.told(x::commit);
        return x.buffered();
    }

    private static void segments(Check check) {
        Twins.unchanged(check, "three", "3", Settings::rich, PostingShelf::segments);
        Twins.unchanged(check, "all that can be", "10", Settings::tenSegments, PostingShelf::segments);
        check.due("a new object", () -> new PostingShelf(64).segments(), 0);
        PostingShelf x = Shelf.ofSegments(800, 2);
        x.delete(1);
        x.delete(2);
        check.due("doomed ones", x::segments, 2);
        x.commit();
        check.due("none is left", x::segments, 0);
    }

    private static void sizeOfSegment(Check check) {
        int[] sizes = {27, 18, 20};
        for (int s = 0; s < 3; s++) {
            int place = s;
            Twins.unchanged(check, "segment " + s, Integer.toString(sizes[s]), Settings::rich, x -> x.size(place));
        }
        check.due("the last of ten", () -> Settings.tenSegments().size(9), 8);
        PostingShelf x = Settings.rich();
        x.merge(0, 1);
        check.due("the order is another now", () -> x.size(1), 20);
    }

    private static void sizeOfList(Check check) {
        Twins.unchanged(check, "a list", "9", Settings::rich, x -> x.size(LIST));
        Twins.unchanged(check, "no list", "0", () -> new PostingShelf(64), x -> x.size(LIST));
        PostingShelf x = Shelf.ofSegments(64, 1);
        x.delete(1);
        x.commit();
        check.due("a list of none", () -> x.size(LIST), 1);
    }

    private static void sizeOfNone(Check check) {
        for (int s : new int[] {-2, 3, MIN, MAX}) {
            Twins.unchanged(check, "size(" + s + ")", "-2", Settings::rich, x -> x.size(s));
        }
        check.due("a new object", () -> new PostingShelf(64).size(0), -2);
        check.due("an eleventh", () -> Settings.tenSegments().size(10), -2);
    }

    private static void at(Check check) {
        check.same("a segment", Shelf.bytes(Settings.rich(), 1), "2 20 1 1 2 1 2 0 1 0 1 1 1 4 1 1 1 0");
        check.same("the list", Shelf.bytes(Settings.rich(), LIST), "3 1 1 1 2 0 3 1 0");
        PostingShelf x = new PostingShelf(64);
        Shelf.put(x, 0, 0);
        Shelf.put(x, MAX, 0);
        x.commit();
        check.due("the least byte", () -> x.at(0, 1), 0);
        check.due("the greatest byte", () -> x.at(0, 3), 255);
        check.due("the first byte", () -> x.at(0, 0), 2);
        check.due("the last byte", () -> x.at(0, x.size(0) - 1), 0);
        check.due("the last of the list", () -> x.at(LIST, 2), 0);
        Twins.unchanged(check, "a byte", "27", Settings::rich, y -> y.at(2, 1) - 3);
    }

    private static void atOfNone(Check check) {
        int[][] none = {{0, -1}, {0, 27}, {0, MIN}, {0, MAX}, {1, 18}, {2, 20}, {LIST, -1}, {LIST, 9}, {LIST, MIN},
            {LIST, MAX}, {-2, 0}, {3, 0}, {MIN, 0}, {MAX, 0}, {-2, -2}, {3, -1}};
        for (int[] pair : none) {
            Twins.unchanged(check, "at(" + pair[0] + ", " + pair[1] + ")", "-2", Settings::rich,
                x -> x.at(pair[0], pair[1]));
        }
        check.due("no list", () -> new PostingShelf(64).at(LIST, 0), -2);
        check.due("no segment", () -> new PostingShelf(64).at(0, 0), -2);
        PostingShelf x = Shelf.ofSegments(800, 5);
        x.merge(0, 4);
        check.due("a list that became shorter", () -> x.at(LIST, 3), -2);
        check.due("a segment that is gone", () -> x.at(1, 0), -2);
    }

    private static void free(Check check) {
        Twins.unchanged(check, "free", Integer.toString(800 - 27 - 18 - 20 - 9), Settings::rich, PostingShelf::free);
        check.due("all of the least room", () -> new PostingShelf(0).free(), 64);
        check.due("all of the most room", () -> new PostingShelf(900).free(), 800);
        PostingShelf x = Settings.toWrite64(64, 0);
        check.due("the buffer uses none", x::free, 64);
        x.commit();
        check.due("none is free", x::free, 0);
        check.due("what is cut uses none", () -> Settings.afterCut(true).free(), 800 - 27 - 18 - 20 - 9);
    }

    private EdgesOfLooks() {
    }
}
