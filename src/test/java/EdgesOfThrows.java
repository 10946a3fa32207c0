/** What is said of all that throws, of the constants, and of how long an object is used. */
final class EdgesOfThrows {
    private static final int MIN = Integer.MIN_VALUE;
    private static final int MAX = Integer.MAX_VALUE;
    private static final String ARGUMENT = "IllegalArgumentException";
    private static final String ELEMENT = "NoSuchElementException";

    static void tell(Sentences all) {
        all.in("What it is");
        all.test("An object is used for at most 512 calls after it has been made;", EdgesOfThrows::lastCall);
        all.in("Terms");
        all.test("What throws leaves everything as it was;", EdgesOfThrows::everythingStays);
        all.test("what may be thrown is tested in the order in which it is named.", EdgesOfThrows::order);
        all.test("The constants: `CUT = -1`: The commit or merge was cut.", EdgesOfThrows::cut);
        all.test("There is none.", EdgesOfThrows::none);
    }

    private static void lastCall(Check check) {
        PostingShelf x = new PostingShelf(800);
        int calls = 0;
        for (int key = 1; calls < 490; key++) {
            Shelf.commitOne(x, key);
            calls += 3;
            if (key > 1) {
                x.merge(0, 1);
                calls++;
            }
            if (key > 20) {
                x.delete(key - 20);
                calls++;
            }
        }
        while (calls < 510) {
            check.due("twenty are kept, one is doomed", x::documents, 21);
            calls++;
        }
        check.holds("the call before the last", x.commit() > 0);
        check.due("call 512", x::documents, 20);
    }

    private static void everythingStays(Check check) {
        Twins.unchanged(check, "many that throw in a row", "0", Settings::rich, EdgesOfThrows::throwMuch);
        Twins.unchanged(check, "many that throw with a full draft", "0", Settings::fullDraft, EdgesOfThrows::throwMuch);
        Twins.unchanged(check, "many that throw with a full buffer", "0", Settings::fullBuffer, EdgesOfThrows::throwMuch);
        Twins.unchanged(check, "many that throw with a full pile", "0", Settings::fullPile, EdgesOfThrows::throwMuch);
        Twins.unchanged(check, "many that throw without a query", "0", () -> Settings.pileOf(0), EdgesOfThrows::throwMuch);
        Twins.unchanged(check, "many that throw without room", "0", Settings::noRoomToMerge, EdgesOfThrows::throwMuch);
        Twins.unchanged(check, "many that throw in a new object", "0", () -> new PostingShelf(64), EdgesOfThrows::throwMuch);
    }

    /** Calls that throw in any state: how many did not. */
    private static int throwMuch(PostingShelf x) {
        Check.Call[] calls = {
            () -> x.type(-1), () -> x.type(16), () -> x.type(MIN), () -> x.add(-1), () -> x.add(MIN),
            () -> x.merge(-1, 1), () -> x.merge(0, 10), () -> x.merge(0, 0), () -> x.merge(2, 1), () -> x.merge(MIN, MAX),
            () -> x.want(-1), () -> x.want(16), () -> x.want(MAX), () -> x.combine(-1), () -> x.combine(11),
            () -> x.combine(MIN), () -> x.match(-1), () -> x.match(MAX), () -> x.match(MIN)};
        int quiet = 0;
        for (Check.Call call : calls) {
            quiet += Check.told(call).startsWith("throws.") ? 0 : 1;
        }
        return quiet;
    }

    private static void order(Check check) {
        orderOfDraftAndBuffer(check);
        orderOfMerge(check);
        orderOfPile(check);
    }

    private static void orderOfDraftAndBuffer(Check check) {
        for (int t : new int[] {-1, 16}) {
            Twins.refused(check, "type: no term, and eight", ARGUMENT, Settings::fullDraft, x -> x.type(t));
        }
        for (int key : new int[] {-1, MIN, 42, 0}) {
            Twins.refused(check, "add: no greater key, and an empty draft", ARGUMENT, Settings::emptyDraft, x -> x.add(key));
            Twins.refused(check, "add: no greater key, and a full buffer", ARGUMENT, Settings::fullBuffer, x -> x.add(key));
            Twins.refused(check, "add: all of it", ARGUMENT, EdgesOfThrows::fullBufferAndEmptyDraft, x -> x.add(key));
        }
        Twins.refused(check, "add: -1, in a new object", ARGUMENT, () -> new PostingShelf(64), x -> x.add(-1));
    }

    private static void orderOfMerge(Check check) {
        for (int[] pair : new int[][] {{-1, 1}, {0, 5}, {1, 1}, {1, 0}, {-1, 5}}) {
            Twins.refused(check, "merge: wrong places, and no room", ARGUMENT, Settings::noRoomToMerge,
                x -> x.merge(pair[0], pair[1]));
        }
    }

    private static void orderOfPile(Check check) {
        for (int t : new int[] {-1, 16}) {
            Twins.refused(check, "want: no term, and 8", ARGUMENT, Settings::fullPile, x -> x.want(t));
        }
        for (int what : new int[] {-1, 11}) {
            Twins.refused(check, "combine: no way, and none", ARGUMENT, () -> Settings.pileOf(0), x -> x.combine(what));
            Twins.refused(check, "combine: no way, and one", ARGUMENT, () -> Settings.pileOf(1), x -> x.combine(what));
            Twins.refused(check, "combine: no way, and leaves", ARGUMENT, () -> Settings.leaves(8, 1), x -> x.combine(what));
        }
        Twins.refused(check, "combine: one, and of eight leaves", ELEMENT, EdgesOfThrows::oneOfEightLeaves,
            x -> x.combine(0));
    }

    private static PostingShelf fullBufferAndEmptyDraft() {
        PostingShelf x = Settings.fullBuffer();
        x.delete(40);
        x.add(52);
        return x;
    }

    private static PostingShelf oneOfEightLeaves() {
        PostingShelf x = Settings.pileOf(0);
        Settings.wantEither(x, 8);
        return x;
    }

    private static void cut(Check check) {
        check.due("CUT", () -> PostingShelf.CUT, -1);
        PostingShelf x = Settings.rich();
        x.fail(0);
        check.due("a commit", x::commit, PostingShelf.CUT);
        x.fail(0);
        check.due("a merge", () -> x.merge(0, 1), PostingShelf.CUT);
        check.due("not what was whole", () -> x.merge(0, 1), 37 + 6);
    }

    private static void none(Check check) {
        check.due("NONE", () -> PostingShelf.NONE, -2);
        PostingShelf x = Settings.rich();
        check.due("no document", () -> x.places(99), PostingShelf.NONE);
        check.due("no segment", () -> x.size(3), PostingShelf.NONE);
        check.due("no byte", () -> x.at(0, 27), PostingShelf.NONE);
        check.due("the list is no segment that is missing", () -> new PostingShelf(64).size(-1), 0);
    }

    private EdgesOfThrows() {
    }
}
