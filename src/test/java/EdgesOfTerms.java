/** The section "Terms", up to the list: what there may be at the least and the most, and how it is written. */
final class EdgesOfTerms {
    private static final int MIN = Integer.MIN_VALUE;
    private static final int MAX = Integer.MAX_VALUE;
    private static final int NONE = PostingShelf.NONE;
    private static final int LIST = Shelf.LIST;

    static void tell(Sentences all) {
        all.in("Terms");
        all.test("TERMS are 0 .. 15.", EdgesOfTerms::terms);
        all.test("A DOCUMENT has a KEY, an int from 0 on, and one to eight terms, at its PLACES 0, 1, ...",
            EdgesOfTerms::document);
        all.test("The DRAFT is a row of at most eight terms.", EdgesOfTerms::draft);
        all.test("The BUFFER has at most 12 documents, in the order in which they were added.", EdgesOfTerms::buffer);
        all.test("The DISK has ROOM bytes.", EdgesOfTerms::disk);
        all.test("There are at most 10 SEGMENTS, in an order, each written as bytes and with a NUMBER, and a LIST that says"
            + " which ones there are.", EdgesOfTerms::tenSegments);
        all.test("A document of a segment is DELETED or not; it may be DOOMED, that is, deleted but not yet written so.",
            EdgesOfTerms::deletedOrDoomed);
        all.test("Its ORDINAL is its place in the segment, from 0.", EdgesOfTerms::ordinal);
        all.test("Keys rise within a segment, and from one segment to the next.", EdgesOfTerms::keysRise);
        all.test("A number x from 0 on is WRITTEN as bytes 0 .. 255: while x is 128 or more, 128 + x modulo 128, x becoming"
            + " x / 128 rounded down; then x.", EdgesOfTerms::numbers);
        all.test("A row that rises is written as its first number and then each one less the one before.",
            EdgesOfTerms::rows);
        all.test("THE BYTES OF A SEGMENT: how many documents; the row of their keys, each followed by how many terms the"
            + " document has;", EdgesOfTerms::keysOfSegment);
        all.test("then for each term that is in some of them, the lesser first: the term; in how many of its documents it"
            + " is; and for these in order: the row of their ordinals, each followed by how many places of the document"
            + " have the term, and by the row of these places.", EdgesOfTerms::termsOfSegment);
        all.test("THE BYTES OF THE LIST: how many segments; for each in order: its number, how many of its documents are"
            + " deleted, and the row of their ordinals.", EdgesOfTerms::list);
        all.test("The bytes of all segments and of the list together are USED.", EdgesOfTerms::used);
        all.test("At first there is no segment, and no list (of 0 bytes).", EdgesOfTerms::atFirst);
    }

    private static void terms(Check check) {
        for (int t : new int[] {0, 15}) {
            check.due("type of a term", () -> new PostingShelf(64).type(t), 1);
            check.due("want of a term", () -> new PostingShelf(64).want(t), 1);
        }
        for (int t : new int[] {MIN, -1, 16, MAX}) {
            check.illegalArgument("type of no term " + t, () -> new PostingShelf(64).type(t));
            check.illegalArgument("want of no term " + t, () -> new PostingShelf(64).want(t));
        }
        PostingShelf x = new PostingShelf(800);
        Shelf.put(x, 1, 0, 1, 2, 3, 4, 5, 6, 7);
        Shelf.put(x, 2, 8, 9, 10, 11, 12, 13, 14, 15);
        x.commit();
        for (int t = 0; t <= 15; t++) {
            int key = 1 + t / 8;
            x.want(t);
            check.due("term " + t + " is another than the others", x::count, 1);
            check.due("term " + t, () -> x.places(key), 1 << t % 8);
            x.discard();
        }
    }

    private static void document(Check check) {
        PostingShelf x = new PostingShelf(800);
        check.illegalState("no term", () -> x.add(0));
        x.type(3);
        check.illegalArgument("the greatest that is no key", () -> x.add(-1));
        check.illegalArgument("the least int", () -> x.add(MIN));
        check.due("the least key, one term", () -> x.add(0), 1);
        for (int p = 0; p < 8; p++) {
            x.type(p);
        }
        check.illegalState("nine terms", () -> x.type(8));
        check.due("the greatest key, eight terms", () -> x.add(MAX), 2);
        x.commit();
        for (int p = 0; p < 8; p++) {
            x.want(p);
            int due = 1 << p;
            check.due("place " + p, () -> x.places(MAX), due);
            x.discard();
        }
        x.want(3);
        check.due("the first place", () -> x.places(0), 1);
    }

    private static void draft(Check check) {
        PostingShelf x = new PostingShelf(800);
        for (int round = 0; round < 2; round++) {
            for (int n = 1; n <= 8; n++) {
                int due = n;
                check.due("term " + n, () -> x.type(5), due);
            }
            check.illegalState("a ninth", () -> x.type(5));
            x.add(round);
        }
        x.commit();
        check.same("eight each", Shelf.bytes(x, 0), "2 0 8 1 8 5 2 0 8 0 1 1 1 1 1 1 1 1 8 0 1 1 1 1 1 1 1");
    }

    private static void buffer(Check check) {
        PostingShelf x = new PostingShelf(800);
        for (int n = 1; n <= 12; n++) {
            x.type(n);
            int due = n;
            check.due("document " + n, () -> x.add(due), due);
        }
        x.type(0);
        check.illegalState("a thirteenth", () -> x.add(13));
        x.delete(1);
        check.due("a twelfth again", () -> x.add(13), 12);
        x.type(0);
        check.illegalState("a thirteenth again", () -> x.add(14));
        x.commit();
        check.due("none is there", x::buffered, 0);
        check.same("twelve, in their order", Shelf.bytes(x, 0), "12 2 1 1 1 1 1 1 1 1 1 1 1 1 1 1 1 1 1 1 1 1 1 1 1"
            + " 0 1 11 1 0 2 1 0 1 0 3 1 1 1 0 4 1 2 1 0 5 1 3 1 0 6 1 4 1 0 7 1 5 1 0 8 1 6 1 0 9 1 7 1 0 10 1 8 1 0"
            + " 11 1 9 1 0 12 1 10 1 0");
    }

    private static void disk(Check check) {
        PostingShelf full = Settings.toWrite64(64, 0);
        check.due("all bytes are written", full::commit, 61 + 3);
        check.due("no byte is free", full::free, 0);
        check.due("nothing to write finds room", full::commit, 0);
        full.delete(1);
        check.illegalState("not even a list finds room", full::commit);
        check.illegalState("a byte more than there are", () -> Settings.toWrite64(64, 1).commit());
        check.due("a disk with a byte more", () -> Settings.toWrite64(65, 1).commit(), 62 + 3);
    }

    private static void tenSegments(Check check) {
        PostingShelf x = new PostingShelf(800);
        for (int n = 1; n <= 10; n++) {
            int key = n;
            check.due("segment " + n, () -> Shelf.commitOne(x, key), 8 + 1 + 2 * n);
        }
        check.due("ten", x::segments, 10);
        check.illegalState("an eleventh", () -> Shelf.commitOne(x, 11));
        check.due("still ten", x::segments, 10);
        for (int s = 0; s < 10; s++) {
            check.same("segment " + s, Shelf.bytes(x, s), "1 " + (s + 1) + " 1 1 1 0 1 0");
        }
        check.same("their numbers in their order", Shelf.bytes(x, LIST), "10 1 0 2 0 3 0 4 0 5 0 6 0 7 0 8 0 9 0 10 0");
        x.merge(4, 5);
        check.due("nine and the buffer's make ten", x::commit, 8 + 21);
        check.due("ten again", x::segments, 10);
    }

    private static void deletedOrDoomed(Check check) {
        PostingShelf x = new PostingShelf(800);
        Shelf.put(x, 1, 1);
        Shelf.put(x, 2, 1);
        x.commit();
        String before = Shelf.shown(x);
        x.delete(2);
        check.same("doomed is not written", Shelf.shown(x), before);
        check.holdsNot("doomed is doomed", x.delete(2));
        x.commit();
        check.same("deleted is written", Shelf.bytes(x, LIST), "1 1 1 1");
        check.holdsNot("deleted is deleted", x.delete(2));
        check.due("and not doomed any more", x::commit, 0);
    }

    private static void ordinal(Check check) {
        PostingShelf x = new PostingShelf(800);
        for (int key = 100; key < 112; key++) {
            Shelf.put(x, key, 1);
        }
        x.commit();
        x.delete(100);
        x.commit();
        check.same("the first", Shelf.bytes(x, LIST), "1 1 1 0");
        x.delete(111);
        x.commit();
        check.same("the last", Shelf.bytes(x, LIST), "1 1 2 0 11");
        Shelf.put(x, 112, 1);
        Shelf.put(x, 113, 1);
        x.commit();
        x.delete(113);
        x.commit();
        check.same("in every segment from 0", Shelf.bytes(x, LIST), "2 1 2 0 11 2 1 1");
        x.merge(0, 1);
        x.delete(101);
        x.delete(112);
        x.commit();
        check.same("in a merged one anew", Shelf.bytes(x, LIST), "1 3 2 0 10");
    }

    private static void keysRise(Check check) {
        PostingShelf x = new PostingShelf(800);
        int[] keys = {0, 1, 7, 130, 131, 5000, MAX - 1, MAX};
        for (int i = 0; i < keys.length; i++) {
            int before = i == 0 ? -1 : keys[i - 1];
            x.type(1);
            check.illegalArgument("the key before", () -> x.add(before));
            x.add(keys[i]);
            if (i % 2 == 1) {
                x.commit();
            }
        }
        x.merge(1, 2);
        check.same("in a merged segment", Shelf.bytes(x, 1), "4 7 1 123 1 1 1 133 38 1 1 4 0 1 0 1 1 0 1 1 0 1 1 0");
        x.want(1);
        for (int i = 0; i < keys.length; i++) {
            int at = i;
            check.due("key " + i, () -> x.match(at), keys[i]);
        }
    }

    private static void numbers(Check check) {
        int[] numbers = {0, 1, 127, 128, 129, 255, 256, 16383, 16384, 2097151, 2097152, 268435455, 268435456, MAX};
        String[] written = {"0", "1", "127", "128 1", "129 1", "255 1", "128 2", "255 127", "128 128 1", "255 255 127",
            "128 128 128 1", "255 255 255 127", "128 128 128 128 1", "255 255 255 255 7"};
        for (int i = 0; i < numbers.length; i++) {
            PostingShelf x = new PostingShelf(64);
            Shelf.put(x, numbers[i], 0);
            int due = 7 + written[i].split(" ").length + 3;
            check.due("how many bytes of " + numbers[i], x::commit, due);
            check.same("bytes of " + numbers[i], Shelf.bytes(x, 0), "1 " + written[i] + " 1 0 1 0 1 0");
        }
    }

    private static void rows(Check check) {
        PostingShelf x = new PostingShelf(800);
        Shelf.put(x, 0, 1);
        Shelf.put(x, 1, 1);
        Shelf.put(x, 129, 1);
        Shelf.put(x, MAX, 1);
        x.commit();
        check.same("from 0, with steps of 1, of 128, and to the greatest", Shelf.bytes(x, 0),
            "4 0 1 1 1 128 1 1 254 254 255 255 7 1 1 4 0 1 0 1 1 0 1 1 0 1 1 0");
        PostingShelf places = new PostingShelf(800);
        Shelf.put(places, 5, 2, 3, 3, 3, 3, 3, 3, 2);
        Shelf.put(places, 6, 3, 3, 3, 3, 3, 3, 3, 4);
        places.commit();
        check.same("of one, of the first and the last, of all between", Shelf.bytes(places, 0),
            "2 5 8 1 8 2 1 0 2 0 7 3 2 0 6 1 1 1 1 1 1 1 7 0 1 1 1 1 1 1 4 1 1 1 7");
    }

    private static void keysOfSegment(Check check) {
        PostingShelf one = new PostingShelf(800);
        Shelf.put(one, 9, 4);
        one.commit();
        check.same("one document of one term", Shelf.bytes(one, 0), "1 9 1 4 1 0 1 0");
        PostingShelf twelve = new PostingShelf(800);
        for (int n = 1; n <= 12; n++) {
            Shelf.put(twelve, n * 200, new int[1 + n % 8]);
        }
        twelve.commit();
        check.holds("twelve documents of one to eight terms", Shelf.bytes(twelve, 0).startsWith("12 200 1 2 200 1 3 200 1 4"
            + " 200 1 5 200 1 6 200 1 7 200 1 8 200 1 1 200 1 2 200 1 3 200 1 4 200 1 5 0 12 0 2 0 1 1 3 0 1 1 "));
    }

    private static void termsOfSegment(Check check) {
        PostingShelf x = new PostingShelf(800);
        Shelf.put(x, 1, 15);
        for (int key = 2; key <= 11; key++) {
            Shelf.put(x, key, 0);
        }
        Shelf.put(x, 12, 15, 0, 15);
        x.commit();
        check.same("the least and the greatest term, the first and the last document", Shelf.bytes(x, 0),
            "12 1 1 1 1 1 1 1 1 1 1 1 1 1 1 1 1 1 1 1 1 1 1 1 3"
            + " 0 11 1 1 0 1 1 0 1 1 0 1 1 0 1 1 0 1 1 0 1 1 0 1 1 0 1 1 0 1 1 0 1 1 1"
            + " 15 2 0 1 0 11 2 0 2");
    }

    private static void list(Check check) {
        PostingShelf x = new PostingShelf(800);
        for (int key = 1; key <= 12; key++) {
            Shelf.put(x, key, 1);
        }
        x.commit();
        check.same("one, none deleted", Shelf.bytes(x, LIST), "1 1 0");
        for (int key = 1; key <= 11; key++) {
            x.delete(key);
        }
        x.commit();
        check.same("all but the last are deleted", Shelf.bytes(x, LIST), "1 1 11 0 1 1 1 1 1 1 1 1 1 1");
        Shelf.put(x, 20, 1);
        Shelf.put(x, 21, 1);
        x.commit();
        x.delete(21);
        x.commit();
        check.same("two, both with deleted ones", Shelf.bytes(x, LIST), "2 1 11 0 1 1 1 1 1 1 1 1 1 1 2 1 1");
        x.delete(12);
        x.delete(20);
        x.commit();
        check.same("none", Shelf.bytes(x, LIST), "0");
    }

    private static void used(Check check) {
        PostingShelf x = Settings.rich();
        for (int round = 0; round < 2; round++) {
            int used = x.size(LIST) + x.size(0) + x.size(1) + x.size(2) + (round == 1 ? x.size(3) : 0);
            check.due("all bytes are used", x::free, 800 - used);
            x.commit();
        }
        check.due("four segments", x::segments, 4);
    }

    private static void atFirst(Check check) {
        PostingShelf x = new PostingShelf(64);
        check.due("no segment", x::segments, 0);
        check.due("no first segment", () -> x.size(0), NONE);
        check.due("no list", () -> x.size(LIST), 0);
        check.due("no byte of it", () -> x.at(LIST, 0), NONE);
        check.due("nothing is used", x::free, 64);
        x.commit();
        check.due("nothing was written", () -> x.size(LIST), 0);
        Shelf.commitOne(x, 1);
        x.delete(1);
        x.commit();
        check.due("a list of none has a byte", () -> x.size(LIST), 1);
        check.due("and it is 0", () -> x.at(LIST, 0), 0);
    }

    private EdgesOfTerms() {
    }
}
