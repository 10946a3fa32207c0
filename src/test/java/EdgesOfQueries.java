/** Queries: the section "Terms" on them, and the promises 8 to 13. */
final class EdgesOfQueries {
    private static final int MIN = Integer.MIN_VALUE;
    private static final int MAX = Integer.MAX_VALUE;
    private static final int NONE = PostingShelf.NONE;
    private static final int BOTH = 0;
    private static final int EITHER = 1;
    private static final int BUT = 2;
    private static final int FOLLOW = 3;
    /** NEAR n is this and n. */
    private static final int NEAR = 3;
    private static final String ARGUMENT = "IllegalArgumentException";
    private static final String STATE = "IllegalStateException";
    private static final String ELEMENT = "NoSuchElementException";

    static void tell(Sentences all) {
        all.in("Terms");
        all.test("QUERIES lie on a PILE of at most 8.", EdgesOfQueries::pile);
        all.test("A query has at most 8 LEAVES,", EdgesOfQueries::leaves);
        all.test("and for each document that is not deleted (doomed ones included) a set of places, where it HOLDS;",
            EdgesOfQueries::holds);
        all.test("the document MATCHES if this set is not empty.", EdgesOfQueries::matches);
        all.test("WANT t, one leaf, holds at the places of the term t.", EdgesOfQueries::wantHolds);
        all.test("Of two queries a (the one below) and b (the top one) are made:", EdgesOfQueries::belowAndTop);
        all.test("BOTH: where a or b holds, if both hold somewhere; else nowhere.", EdgesOfQueries::both);
        all.test("EITHER: where a or b holds.", EdgesOfQueries::either);
        all.test("BUT: where a holds, if b holds nowhere; else nowhere.", EdgesOfQueries::but);
        all.test("FOLLOW: at the places p of b for which a holds at p - 1.", EdgesOfQueries::follow);
        all.test("NEAR n: at the places p of b for which a holds at some other place that is at most n away from p.",
            EdgesOfQueries::near);
        all.in("Promise 8: want");
        all.test("Puts WANT t on the pile: how many queries lie there.", EdgesOfQueries::want);
        all.test("IllegalArgumentException when t is no term;", EdgesOfQueries::wantOfNoTerm);
        all.test("IllegalStateException when there are 8.", EdgesOfQueries::wantOnFullPile);
        all.in("Promise 9: combine");
        all.test("The two top queries become one: 0 BOTH, 1 EITHER, 2 BUT, 3 FOLLOW, 4 .. 10 NEAR 1 .. 7;",
            EdgesOfQueries::combine);
        all.test("how many queries lie there then.", EdgesOfQueries::combineCounts);
        all.test("IllegalArgumentException when what is not 0 .. 10;", EdgesOfQueries::combineInNoWay);
        all.test("NoSuchElementException when there are fewer than two;", EdgesOfQueries::combineFewerThanTwo);
        all.test("IllegalStateException when it would have more than 8 leaves.", EdgesOfQueries::combineNineLeaves);
        all.in("Promise 10: discard");
        all.test("Takes the top query away: how many lie there then.", EdgesOfQueries::discard);
        all.test("NoSuchElementException when there is none.", EdgesOfQueries::discardOfNone);
        all.in("Promise 11: count");
        all.test("How many documents match the top query.", EdgesOfQueries::count);
        all.test("NoSuchElementException when there is none.", EdgesOfQueries::countOfNone);
        all.in("Promise 12: match");
        all.test("The key of document i (from 0, by their keys) that matches the top query.", EdgesOfQueries::match);
        all.test("NoSuchElementException when there is no query", EdgesOfQueries::matchOfNoQuery);
        all.test("or no such document.", EdgesOfQueries::matchOfNoDocument);
        all.in("Promise 13: places");
        all.test("Where the top query holds in the document with this key, as the sum of 2^p;", EdgesOfQueries::places);
        all.test("NONE when no document with this key is in a segment and not deleted.", EdgesOfQueries::placesInNone);
        all.test("NoSuchElementException when there is no query.", EdgesOfQueries::placesOfNoQuery);
    }

    // Terms

    private static void pile(Check check) {
        PostingShelf x = new PostingShelf(64);
        for (int n = 1; n <= 8; n++) {
            int due = n;
            check.due("query " + n, () -> x.want(0), due);
        }
        check.illegalState("a ninth", () -> x.want(0));
        x.combine(BOTH);
        check.due("an eighth, when two became one", () -> x.want(0), 8);
        check.illegalState("a ninth again", () -> x.want(0));
        x.discard();
        check.due("an eighth, when one was taken away", () -> x.want(0), 8);
    }

    private static void leaves(Check check) {
        int[][] eight = {{1, 7}, {7, 1}, {4, 4}, {2, 6}};
        for (int[] pair : eight) {
            check.due("eight leaves", () -> Settings.leaves(pair[0], pair[1]).combine(EITHER), 2);
        }
        int[][] more = {{1, 8}, {8, 1}, {4, 5}, {5, 4}, {8, 8}, {2, 7}};
        for (int[] pair : more) {
            check.illegalState("more than eight", () -> Settings.leaves(pair[0], pair[1]).combine(EITHER));
        }
        PostingShelf x = new PostingShelf(800);
        Shelf.put(x, 1, 0, 1, 2, 3, 4, 5, 6, 7);
        x.commit();
        for (int t = 0; t < 8; t++) {
            x.want(t);
        }
        for (int t = 0; t < 7; t++) {
            x.combine(BOTH);
        }
        check.due("each of the eight counts", () -> x.places(1), 255);
    }

    private static void holds(Check check) {
        PostingShelf x = Settings.pileOf(1);
        check.due("in those of segments that are not deleted, the doomed one too", x::count, 4);
        check.due("in a doomed one", () -> x.places(21), 2);
        check.due("not in the buffer's", () -> x.places(40), NONE);
        x.commit();
        check.due("not in one that is deleted now", () -> x.places(21), NONE);
        check.due("in those that were the buffer's", () -> x.places(40), 2);
        check.due("in one less and two more", x::count, 5);
    }

    private static void matches(Check check) {
        PostingShelf x = new PostingShelf(800);
        Shelf.put(x, 1, 4);
        Shelf.put(x, 2, 5, 5, 5, 5, 5, 5, 5, 4);
        Shelf.put(x, 3, 5);
        x.commit();
        x.want(4);
        check.due("two of three", x::count, 2);
        check.due("at the first place alone", () -> x.match(0), 1);
        check.due("at the last place alone", () -> x.match(1), 2);
        check.due("nowhere", () -> x.places(3), 0);
        check.noSuchElement("no match where it holds nowhere", () -> x.match(2));
    }

    private static void wantHolds(Check check) {
        check.due("at the first place", () -> whereWant(3, 3, 4), 1);
        check.due("at the last of eight", () -> whereWant(3, 4, 4, 4, 4, 4, 4, 4, 3), 128);
        check.due("at all eight", () -> whereWant(3, 3, 3, 3, 3, 3, 3, 3, 3), 255);
        check.due("at some", () -> whereWant(3, 4, 3, 4, 3), 2 + 8);
        check.due("nowhere", () -> whereWant(3, 4), 0);
        check.due("one leaf beside seven", () -> Settings.leaves(7, 1).combine(EITHER), 2);
        check.illegalState("one leaf beside eight", () -> Settings.leaves(8, 1).combine(EITHER));
    }

    private static void belowAndTop(Check check) {
        check.due("a but not b", () -> where(BUT, 1, 2, 1, 3), 1);
        check.due("b but not a", () -> where(BUT, 2, 1, 1, 3), 0);
        check.due("b after a", () -> where(FOLLOW, 1, 2, 1, 2), 2);
        check.due("a after b", () -> where(FOLLOW, 2, 1, 1, 2), 0);
        check.due("b near a", () -> where(NEAR + 1, 1, 2, 1, 2), 2);
        check.due("a near b", () -> where(NEAR + 1, 2, 1, 1, 2), 1);
    }

    private static void both(Check check) {
        check.due("both", () -> where(BOTH, 1, 2, 1, 2, 3), 3);
        check.due("only a", () -> where(BOTH, 1, 2, 1, 1), 0);
        check.due("only b", () -> where(BOTH, 1, 2, 2, 2), 0);
        check.due("neither", () -> where(BOTH, 1, 2, 3), 0);
        check.due("a is b", () -> where(BOTH, 1, 1, 1, 3, 1), 5);
        check.due("the first and the last place", () -> where(BOTH, 1, 2, 2, 3, 3, 3, 3, 3, 3, 1), 129);
        check.due("all places", () -> where(BOTH, 1, 2, 1, 2, 1, 2, 1, 2, 1, 2), 255);
    }

    private static void either(Check check) {
        check.due("both", () -> where(EITHER, 1, 2, 1, 2, 3), 3);
        check.due("only a", () -> where(EITHER, 1, 2, 3, 1), 2);
        check.due("only b", () -> where(EITHER, 1, 2, 3, 2), 2);
        check.due("neither", () -> where(EITHER, 1, 2, 3), 0);
        check.due("a is b", () -> where(EITHER, 1, 1, 1, 3, 1), 5);
        check.due("all places", () -> where(EITHER, 1, 2, 1, 2, 1, 2, 1, 2, 1, 2), 255);
    }

    private static void but(Check check) {
        check.due("only a", () -> where(BUT, 1, 2, 3, 1, 1), 6);
        check.due("both", () -> where(BUT, 1, 2, 1, 1, 1, 1, 1, 1, 1, 2), 0);
        check.due("only b", () -> where(BUT, 1, 2, 2), 0);
        check.due("neither", () -> where(BUT, 1, 2, 3), 0);
        check.due("a is b", () -> where(BUT, 1, 1, 1), 0);
        check.due("all places", () -> where(BUT, 1, 2, 1, 1, 1, 1, 1, 1, 1, 1), 255);
    }

    private static void follow(Check check) {
        check.due("just behind", () -> where(FOLLOW, 1, 2, 1, 2), 2);
        check.due("just before", () -> where(FOLLOW, 1, 2, 2, 1), 0);
        check.due("two behind", () -> where(FOLLOW, 1, 2, 1, 3, 2), 0);
        check.due("the first place has none before", () -> where(FOLLOW, 1, 1, 1), 0);
        check.due("the last place has", () -> where(FOLLOW, 1, 2, 3, 3, 3, 3, 3, 3, 1, 2), 128);
        check.due("the first does not come after the last", () -> where(FOLLOW, 1, 2, 2, 3, 3, 3, 3, 3, 3, 1), 0);
        check.due("all but the first", () -> where(FOLLOW, 1, 1, 1, 1, 1, 1, 1, 1, 1, 1), 254);
        check.due("several", () -> where(FOLLOW, 1, 2, 1, 2, 2, 1, 2), 2 + 16);
    }

    private static void near(Check check) {
        for (int n = 1; n <= 7; n++) {
            int what = NEAR + n;
            for (int away = 1; away <= 7; away++) {
                int[] rising = rowOf(0, 1, away, 2);
                int[] falling = rowOf(7, 1, 7 - away, 2);
                check.due("NEAR " + n + ", " + away + " behind", () -> where(what, 1, 2, rising), away <= n ? 1 << away : 0);
                check.due("NEAR " + n + ", " + away + " before", () -> where(what, 1, 2, falling),
                    away <= n ? 1 << 7 - away : 0);
            }
            check.due("NEAR " + n + ": the same place is no other", () -> where(what, 1, 1, 1), 0);
            check.due("NEAR " + n + ": all places", () -> where(what, 1, 1, 1, 1, 1, 1, 1, 1, 1, 1), 255);
        }
        PostingShelf x = new PostingShelf(64);
        Shelf.put(x, 1, 1, 2);
        x.commit();
        x.want(1);
        x.want(1);
        x.want(2);
        x.combine(EITHER);
        x.combine(NEAR + 7);
        check.due("not where a holds at the same place alone", () -> x.places(1), 2);
    }

    // Promise 8

    private static void want(Check check) {
        PostingShelf x = Settings.pileOf(0);
        for (int n = 1; n <= 8; n++) {
            int t = n == 8 ? 15 : n - 1;
            int due = n;
            check.due("want " + n, () -> x.want(t), due);
        }
        Shelf.put(x, 50, 15);
        x.commit();
        check.due("the last one is on top", () -> x.match(0), 50);
    }

    private static void wantOfNoTerm(Check check) {
        for (int t : new int[] {-1, 16, MIN, MAX}) {
            Twins.refused(check, "want(" + t + ")", ARGUMENT, Settings::rich, x -> x.want(t));
        }
    }

    private static void wantOnFullPile(Check check) {
        Twins.refused(check, "a ninth", STATE, Settings::fullPile, x -> x.want(0));
        Twins.refused(check, "a ninth", STATE, Settings::fullPile, x -> x.want(15));
        PostingShelf x = Settings.fullPile();
        x.discard();
        check.due("an eighth", () -> x.want(0), 8);
    }

    // Promise 9

    private static void combine(Check check) {
        int[] due = {1 + 16, 1 + 16, 0, 0, 0, 0, 0, 16, 16, 16, 16};
        for (int what = 0; what <= 10; what++) {
            int way = what;
            check.due("1 and 2, four away, by " + what, () -> where(way, 1, 2, 1, 3, 3, 3, 2), due[what]);
        }
        check.due("0 is not 1", () -> where(0, 1, 2, 1), 0);
        check.due("1 is not 0", () -> where(1, 1, 2, 1), 1);
        check.due("2 is not 3", () -> where(2, 1, 2, 1), 1);
        check.due("3 is not 4", () -> where(3, 1, 2, 2, 1), 0);
        check.due("4 is not 3", () -> where(4, 1, 2, 2, 1), 1);
        PostingShelf x = Settings.fullPile();
        x.combine(EITHER);
        x.discard();
        x.discard();
        check.due("both are gone with it, and no other", x::discard, 4);
    }

    private static void combineCounts(Check check) {
        PostingShelf x = Settings.fullPile();
        for (int n = 7; n >= 2; n--) {
            int due = n;
            check.due("down to " + n, () -> x.combine(BOTH), due);
        }
        check.due("two become one", () -> Settings.pileOf(2).combine(10), 1);
    }

    private static void combineInNoWay(Check check) {
        for (int what : new int[] {-1, 11, MIN, MAX}) {
            Twins.refused(check, "combine(" + what + ")", ARGUMENT, Settings::rich, x -> x.combine(what));
        }
        for (int what = 0; what <= 10; what++) {
            int way = what;
            check.due("combine(" + what + ")", () -> Settings.rich().combine(way), 2);
        }
    }

    private static void combineFewerThanTwo(Check check) {
        for (int what = 0; what <= 10; what += 5) {
            int way = what;
            Twins.refused(check, "none", ELEMENT, () -> Settings.pileOf(0), x -> x.combine(way));
            Twins.refused(check, "one", ELEMENT, () -> Settings.pileOf(1), x -> x.combine(way));
        }
        check.due("two", () -> Settings.pileOf(2).combine(BOTH), 1);
    }

    private static void combineNineLeaves(Check check) {
        int[][] nine = {{1, 8}, {8, 1}, {4, 5}, {8, 8}};
        for (int[] pair : nine) {
            Twins.refused(check, pair[0] + " and " + pair[1] + " leaves", STATE, () -> Settings.leaves(pair[0], pair[1]),
                x -> x.combine(BUT));
        }
        check.due("eight", () -> Settings.leaves(4, 4).combine(BUT), 2);
    }

    // Promises 10 and 11

    private static void discard(Check check) {
        PostingShelf x = Settings.fullPile();
        for (int n = 7; n >= 0; n--) {
            int due = n;
            check.due("down to " + n, x::discard, due);
        }
        PostingShelf y = Settings.rich();
        y.discard();
        check.due("the top one is gone", () -> y.places(10), 4);
        check.due("the one below is whole", () -> y.combine(EITHER), 1);
    }

    private static void discardOfNone(Check check) {
        Twins.refused(check, "no query", ELEMENT, () -> Settings.pileOf(0), PostingShelf::discard);
        Twins.refused(check, "a new object", ELEMENT, () -> new PostingShelf(64), PostingShelf::discard);
    }

    private static void count(Check check) {
        PostingShelf x = new PostingShelf(800);
        x.want(1);
        check.due("no document", x::count, 0);
        for (int key = 0; key < 12; key++) {
            Shelf.put(x, key, 1);
        }
        check.due("none is written", x::count, 0);
        x.commit();
        check.due("all", x::count, 12);
        x.want(2);
        check.due("none matches the top query", x::count, 0);
        Twins.unchanged(check, "one of five", "1", Settings::rich, PostingShelf::count);
        Twins.unchanged(check, "four of five", "4", () -> Settings.pileOf(1), PostingShelf::count);
    }

    private static void countOfNone(Check check) {
        Twins.refused(check, "no query", ELEMENT, () -> Settings.pileOf(0), PostingShelf::count);
        Twins.refused(check, "a new object", ELEMENT, () -> new PostingShelf(64), PostingShelf::count);
    }

    // Promise 12

    private static void match(Check check) {
        PostingShelf x = Settings.pileOf(1);
        int[] keys = {10, 20, 21, 31};
        for (int i = 0; i < keys.length; i++) {
            int at = i;
            check.due("document " + i, () -> x.match(at), keys[i]);
        }
        PostingShelf y = new PostingShelf(64);
        Shelf.commitOne(y, 0);
        Shelf.commitOne(y, MAX);
        y.want(1);
        check.due("the least key", () -> y.match(0), 0);
        check.due("the greatest key", () -> y.match(1), MAX);
        Twins.unchanged(check, "one of three queries", "12", Settings::rich, z -> z.match(0));
    }

    private static void matchOfNoQuery(Check check) {
        for (int i : new int[] {0, -1, MAX}) {
            Twins.refused(check, "no query", ELEMENT, () -> Settings.pileOf(0), x -> x.match(i));
        }
        check.noSuchElement("a new object", () -> new PostingShelf(64).match(0));
    }

    private static void matchOfNoDocument(Check check) {
        for (int i : new int[] {-1, 4, 5, MIN, MAX}) {
            Twins.refused(check, "match(" + i + ")", ELEMENT, () -> Settings.pileOf(1), x -> x.match(i));
        }
        PostingShelf none = new PostingShelf(64);
        none.want(1);
        check.noSuchElement("no document at all", () -> none.match(0));
        Shelf.put(none, 1, 1);
        check.noSuchElement("one in the buffer", () -> none.match(0));
        none.commit();
        check.due("one that is written", () -> none.match(0), 1);
        none.delete(1);
        check.due("one that is doomed", () -> none.match(0), 1);
        none.commit();
        check.noSuchElement("one that is deleted", () -> none.match(0));
    }

    // Promise 13

    private static void places(Check check) {
        for (int p = 0; p < 8; p++) {
            int[] row = rowOf(p, 1, 7, p == 7 ? 1 : 3);
            int due = 1 << p;
            check.due("place " + p, () -> whereWant(1, row), due);
        }
        check.due("all", () -> whereWant(1, 1, 1, 1, 1, 1, 1, 1, 1), 255);
        check.due("nowhere is 0", () -> whereWant(1, 2), 0);
        PostingShelf x = new PostingShelf(64);
        Shelf.put(x, 0, 1);
        Shelf.put(x, MAX, 2, 1);
        x.commit();
        x.want(1);
        check.due("the least key", () -> x.places(0), 1);
        check.due("the greatest key", () -> x.places(MAX), 2);
    }

    private static void placesInNone(Check check) {
        for (int key : new int[] {-1, -2, MIN, MAX, 9, 13, 11, 30, 40, 41}) {
            Twins.unchanged(check, "places(" + key + ")", "-2", Settings::rich, x -> x.places(key));
        }
        PostingShelf x = Settings.pileOf(1);
        check.due("doomed", () -> x.places(21), 2);
        x.merge(0, 2);
        check.due("doomed and merged", () -> x.places(21), 2);
        check.due("deleted and merged", () -> x.places(11), NONE);
        x.commit();
        check.due("deleted", () -> x.places(21), NONE);
        check.due("written now", () -> x.places(40), 2);
    }

    private static void placesOfNoQuery(Check check) {
        for (int key : new int[] {10, 11, 40, 99, -1}) {
            Twins.refused(check, "no query, places(" + key + ")", ELEMENT, () -> Settings.pileOf(0), x -> x.places(key));
        }
    }

    // Helpers

    /** Where WANT holds in a document of these terms. */
    private static int whereWant(int term, int... terms) {
        PostingShelf x = new PostingShelf(800);
        Shelf.put(x, 1, terms);
        x.commit();
        x.want(term);
        return x.places(1);
    }

    /** Where two terms, combined in this way, hold in a document of these terms. */
    private static int where(int what, int below, int top, int... terms) {
        PostingShelf x = new PostingShelf(800);
        Shelf.put(x, 1, terms);
        x.commit();
        x.want(below);
        x.want(top);
        x.combine(what);
        return x.places(1);
    }

    /** Eight terms, all 3 but for two. */
    private static int[] rowOf(int place, int term, int otherPlace, int otherTerm) {
        int[] row = {3, 3, 3, 3, 3, 3, 3, 3};
        row[place] = term;
        row[otherPlace] = otherTerm;
        return row;
    }

    private EdgesOfQueries() {
    }
}
