/** The promises 1 to 4: a new object, the draft, the buffer, and what is deleted. */
final class EdgesOfDocuments {
    private static final int MIN = Integer.MIN_VALUE;
    private static final int MAX = Integer.MAX_VALUE;
    private static final String ARGUMENT = "IllegalArgumentException";
    private static final String STATE = "IllegalStateException";

    static void tell(Sentences all) {
        all.in("Promise 1: A new object");
        all.test("ROOM is room, but 64 if it is less and 800 if it is more.", EdgesOfDocuments::room);
        all.test("Everything is empty;", EdgesOfDocuments::everythingIsEmpty);
        all.test("the power does not fail.", EdgesOfDocuments::powerDoesNotFail);
        all.in("Promise 2: type");
        all.test("Appends a term to the draft: how many it has then.", EdgesOfDocuments::type);
        all.test("IllegalArgumentException when t is no term;", EdgesOfDocuments::typeOfNoTerm);
        all.test("IllegalStateException when the draft has eight.", EdgesOfDocuments::typeOfNinth);
        all.in("Promise 3: add");
        all.test("The draft, with this key, becomes a document of the buffer, the last one, and is empty then: how many"
            + " documents the buffer has.", EdgesOfDocuments::add);
        all.test("IllegalArgumentException when key is less than 0,", EdgesOfDocuments::addOfNoKey);
        all.test("or not greater than the keys of all documents in the buffer and in the segments (deleted ones too);",
            EdgesOfDocuments::addOfLesserKey);
        all.test("IllegalStateException when the draft is empty", EdgesOfDocuments::addOfEmptyDraft);
        all.test("or the buffer has 12.", EdgesOfDocuments::addToFullBuffer);
        all.in("Promise 4: delete");
        all.test("The document with this key is taken out of the buffer, or is doomed: true;", EdgesOfDocuments::delete);
        all.test("false when there is none,", EdgesOfDocuments::deleteOfNone);
        all.test("or it is deleted or doomed already.", EdgesOfDocuments::deleteAgain);
    }

    // Promise 1

    private static void room(Check check) {
        int[][] rooms = {{MIN, 64}, {-1, 64}, {0, 64}, {63, 64}, {64, 64}, {65, 65}, {799, 799}, {800, 800}, {801, 800},
            {MAX, 800}};
        for (int[] pair : rooms) {
            check.due("room " + pair[0], () -> new PostingShelf(pair[0]).free(), pair[1]);
        }
        check.due("64 bytes are there", () -> Settings.toWrite64(MIN, 0).commit(), 64);
        check.illegalState("and no more", () -> Settings.toWrite64(63, 1).commit());
        check.due("65 are there when they are asked for", () -> Settings.toWrite64(65, 1).commit(), 65);
    }

    private static void everythingIsEmpty(Check check) {
        PostingShelf x = new PostingShelf(100);
        check.same("nothing is seen", Shelf.shown(x), "documents 0 buffered 0 segments 0 free 100 list");
        check.noSuchElement("no query", x::discard);
        check.illegalState("no term", () -> x.add(0));
        check.due("nothing to write", x::commit, 0);
        check.holdsNot("nothing to delete", x.delete(0));
        check.due("the first term", () -> x.type(0), 1);
        check.due("the first document, of the least key", () -> x.add(0), 1);
        check.due("the first query", () -> x.want(0), 1);
        x.commit();
        check.same("the first number", Shelf.bytes(x, Shelf.LIST), "1 1 0");
    }

    private static void powerDoesNotFail(Check check) {
        PostingShelf x = new PostingShelf(800);
        for (int key = 1; key <= 40; key++) {
            int due = key;
            check.holds("commit " + key, Shelf.commitOne(x, due) > 0);
            check.holds("merge " + key, key == 1 || x.merge(0, 1) > 0);
        }
    }

    // Promise 2

    private static void type(Check check) {
        PostingShelf x = new PostingShelf(800);
        int[] terms = {15, 0, 0, 14, 1, 15, 7, 0};
        for (int n = 0; n < 8; n++) {
            int t = terms[n];
            check.due("term " + (n + 1), () -> x.type(t), n + 1);
        }
        x.add(1);
        check.due("the first again", () -> x.type(2), 1);
        x.commit();
        check.same("at their places", Shelf.bytes(x, 0), "1 1 8 0 1 0 3 1 1 5 1 1 0 1 4 7 1 0 1 6 14 1 0 1 3 15 1 0 2 0 5");
    }

    private static void typeOfNoTerm(Check check) {
        for (int t : new int[] {-1, 16, MIN, MAX}) {
            Twins.refused(check, "type(" + t + ")", ARGUMENT, Settings::rich, x -> x.type(t));
            Twins.refused(check, "type(" + t + ") of a new object", ARGUMENT, () -> new PostingShelf(64), x -> x.type(t));
        }
    }

    private static void typeOfNinth(Check check) {
        Twins.refused(check, "a ninth", STATE, Settings::fullDraft, x -> x.type(0));
        Twins.refused(check, "a ninth", STATE, Settings::fullDraft, x -> x.type(15));
    }

    // Promise 3

    private static void add(Check check) {
        PostingShelf x = Shelf.ofSegments(800, 1);
        for (int n = 1; n <= 12; n++) {
            x.type(n);
            int due = n;
            check.due("document " + n, () -> x.add(due * 2), due);
            check.due("in the buffer", x::buffered, due);
            check.illegalState("the draft is empty then", () -> x.add(due * 2 + 1));
        }
        check.due("the draft begins anew", () -> x.type(0), 1);
        x.commit();
        check.holds("the last one behind the others", Shelf.bytes(x, 1).endsWith(" 11 1 10 1 0 12 1 11 1 0"));
    }

    private static void addOfNoKey(Check check) {
        Twins.refused(check, "add(-1)", ARGUMENT, Settings::rich, x -> x.add(-1));
        Twins.refused(check, "add of the least int", ARGUMENT, Settings::rich, x -> x.add(MIN));
        Twins.refused(check, "add(-1) to nothing", ARGUMENT, Settings::draftAlone, x -> x.add(-1));
        check.due("add(0) to nothing", () -> Settings.draftAlone().add(0), 1);
    }

    private static void addOfLesserKey(Check check) {
        for (int key : new int[] {41, 40, 39, 31, 11, 0}) {
            Twins.refused(check, "41 is in the buffer, add(" + key + ")", ARGUMENT, Settings::rich, x -> x.add(key));
        }
        check.due("greater than all", () -> Settings.rich().add(42), 3);
        for (int key : new int[] {0, 5, 6}) {
            Twins.refused(check, "6 is in a segment, add(" + key + ")", ARGUMENT, EdgesOfDocuments::withSix, x -> x.add(key));
            Twins.refused(check, "6 is doomed, add(" + key + ")", ARGUMENT, EdgesOfDocuments::withSixDoomed, x -> x.add(key));
            Twins.refused(check, "6 is deleted, add(" + key + ")", ARGUMENT, EdgesOfDocuments::withSixDeleted,
                x -> x.add(key));
        }
        check.due("greater than the segment's", () -> withSix().add(7), 1);
        check.due("greater than the deleted one", () -> withSixDeleted().add(7), 1);
        PostingShelf merged = withSixDeleted();
        merged.merge(0, 1);
        check.illegalArgument("5 is still in a segment", () -> merged.add(5));
        check.due("6 is in none any more", () -> merged.add(6), 1);
        PostingShelf taken = Settings.rich();
        taken.delete(41);
        check.illegalArgument("40 is in the buffer still", () -> taken.add(40));
        check.due("41 was taken out of it", () -> taken.add(41), 2);
        PostingShelf most = Settings.draftAlone();
        most.add(MAX);
        most.type(1);
        check.illegalArgument("none is greater than the greatest", () -> most.add(MAX));
        check.illegalArgument("nor what comes after it", () -> most.add(MAX + 1));
    }

    /** The documents 1, and 5 and 6, in two segments, and a draft. */
    private static PostingShelf withSix() {
        PostingShelf x = Shelf.ofSegments(800, 1);
        Shelf.put(x, 5, 1);
        Shelf.put(x, 6, 1);
        x.commit();
        x.type(1);
        return x;
    }

    private static PostingShelf withSixDoomed() {
        PostingShelf x = withSix();
        x.delete(6);
        return x;
    }

    private static PostingShelf withSixDeleted() {
        PostingShelf x = withSixDoomed();
        x.commit();
        return x;
    }

    private static void addOfEmptyDraft(Check check) {
        Twins.refused(check, "an empty draft", STATE, Settings::emptyDraft, x -> x.add(43));
        Twins.refused(check, "a new object", STATE, () -> new PostingShelf(64), x -> x.add(0));
        Twins.refused(check, "the greatest key", STATE, Settings::emptyDraft, x -> x.add(MAX));
    }

    private static void addToFullBuffer(Check check) {
        Twins.refused(check, "a thirteenth", STATE, Settings::fullBuffer, x -> x.add(52));
        Twins.refused(check, "a thirteenth of the greatest key", STATE, Settings::fullBuffer, x -> x.add(MAX));
        PostingShelf x = Settings.fullBuffer();
        x.delete(40);
        check.due("a twelfth", () -> x.add(52), 12);
        x.commit();
        x.type(1);
        check.due("a first", () -> x.add(53), 1);
    }

    // Promise 4

    private static void delete(Check check) {
        for (int key = 40; key <= 51; key++) {
            PostingShelf x = Settings.fullBuffer();
            check.holds("in the buffer: " + key, x.delete(key));
            check.due("one less", x::buffered, 11);
            check.holdsNot("no more there", x.delete(key));
            x.commit();
            x.want(15);
            int gone = key;
            check.due("nor written", () -> x.places(gone), PostingShelf.NONE);
        }
        for (int key : new int[] {10, 12, 20, 31}) {
            PostingShelf x = Settings.rich();
            check.holds("in a segment: " + key, x.delete(key));
            check.due("doomed, not yet deleted", x::documents, 5);
            check.due("the buffer stays", x::buffered, 2);
            x.commit();
            check.due("deleted, and 21, and two are new", x::documents, 5);
        }
        PostingShelf ends = new PostingShelf(64);
        Shelf.put(ends, 0, 1);
        Shelf.put(ends, MAX, 1);
        check.holds("the greatest key", ends.delete(MAX));
        ends.commit();
        check.holds("the least key", ends.delete(0));
    }

    private static void deleteOfNone(Check check) {
        for (int key : new int[] {-1, -2, MIN, 0, 9, 13, 32, 39, 42, MAX}) {
            Twins.unchanged(check, "delete(" + key + ")", "0", Settings::rich, x -> Shelf.asInt(x.delete(key)));
        }
        Twins.unchanged(check, "a new object", "0", () -> new PostingShelf(64), x -> Shelf.asInt(x.delete(0)));
        Twins.unchanged(check, "the draft has no key", "0", Settings::draftAlone, x -> Shelf.asInt(x.delete(0)));
        PostingShelf merged = Settings.rich();
        merged.merge(0, 2);
        check.holdsNot("deleted and merged away", merged.delete(11));
    }

    private static void deleteAgain(Check check) {
        Twins.unchanged(check, "deleted", "0", Settings::rich, x -> Shelf.asInt(x.delete(11)));
        Twins.unchanged(check, "deleted, the first of its segment", "0", Settings::rich, x -> Shelf.asInt(x.delete(30)));
        Twins.unchanged(check, "doomed", "0", Settings::rich, x -> Shelf.asInt(x.delete(21)));
        Twins.unchanged(check, "doomed and merged", "0", EdgesOfDocuments::mergedDoomed, x -> Shelf.asInt(x.delete(21)));
    }

    private static PostingShelf mergedDoomed() {
        PostingShelf x = Settings.rich();
        x.merge(1, 2);
        return x;
    }

    private EdgesOfDocuments() {
    }
}
