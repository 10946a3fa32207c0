/** Commit, merge and power: the section "Terms" on them, and the promises 5 to 7. */
final class EdgesOfWriting {
    private static final int MIN = Integer.MIN_VALUE;
    private static final int MAX = Integer.MAX_VALUE;
    private static final int CUT = PostingShelf.CUT;
    private static final int LIST = Shelf.LIST;
    private static final boolean[] COMMIT_AND_MERGE = {false, true};
    private static final String ARGUMENT = "IllegalArgumentException";
    private static final String STATE = "IllegalStateException";

    static void tell(Sentences all) {
        all.in("Terms");
        all.test("A COMMIT: if the buffer is empty and nothing is doomed, nothing is written.", EdgesOfWriting::nothing);
        all.test("Otherwise the buffer's documents, if there are any, become a new segment behind the others;",
            EdgesOfWriting::newSegment);
        all.test("doomed documents become deleted;", EdgesOfWriting::doomedBecomeDeleted);
        all.test("segments all of whose documents are deleted are left out;", EdgesOfWriting::leftOut);
        all.test("and there is a new list.", EdgesOfWriting::newList);
        all.test("The new segment gets the next number (1, 2, .. for all segments ever WRITTEN WHOLE, merged ones too).",
            EdgesOfWriting::nextNumber);
        all.test("A MERGE of the segments at i .. j (counted from 0 in their order) makes one segment of them, in their"
            + " place,", EdgesOfWriting::inTheirPlace);
        all.test("of those of their documents that are not deleted", EdgesOfWriting::mergeOfNotDeleted);
        all.test("(doomed ones stay doomed;", EdgesOfWriting::mergeOfDoomed);
        all.test("if none is left, no segment),", EdgesOfWriting::mergeOfNone);
        all.test("and there is a new list.", EdgesOfWriting::newListOfMerge);
        all.test("It gets the next number.", EdgesOfWriting::nextNumberOfMerge);
        all.test("What is written, the new segment (if there is one) and the new list, must find room beside all that is"
            + " USED before;", EdgesOfWriting::room);
        all.test("when it is written, the old list, and the segments that are not in the new one, are gone.",
            EdgesOfWriting::oldIsGone);
        all.test("POWER: it may have been said that it fails when n more bytes have been written.", EdgesOfWriting::power);
        all.test("A commit or merge that writes no more than n bytes leaves n less so many.", EdgesOfWriting::lessPower);
        all.test("One that writes more is CUT: the segments and the list stay as they were before,",
            EdgesOfWriting::cutLeavesDisk);
        all.test("no number is used up,", EdgesOfWriting::cutUsesNoNumber);
        all.test("the draft and the buffer are empty then,", EdgesOfWriting::cutEmptiesDraftAndBuffer);
        all.test("nothing is doomed,", EdgesOfWriting::cutSparesDoomed);
        all.test("and the power does not fail again until it is said so anew.", EdgesOfWriting::cutOnlyOnce);
        all.test("(The pile of queries stays.)", EdgesOfWriting::cutLeavesPile);
        all.in("Promise 5: commit");
        all.test("Commits: how many bytes were written, or CUT.", EdgesOfWriting::commitAnswers);
        all.test("IllegalStateException when there is no room,", EdgesOfWriting::commitWithoutRoom);
        all.test("or there would be more than 10 segments.", EdgesOfWriting::commitOfEleventh);
        all.in("Promise 6: merge");
        all.test("Merges the segments at i .. j: how many bytes were written, or CUT.", EdgesOfWriting::mergeAnswers);
        all.test("IllegalArgumentException when i is less than 0,", EdgesOfWriting::mergeFromTooLow);
        all.test("j is not a segment's place,", EdgesOfWriting::mergeToNoSegment);
        all.test("or i is not less than j;", EdgesOfWriting::mergeOfOne);
        all.test("IllegalStateException when there is no room.", EdgesOfWriting::mergeWithoutRoom);
        all.in("Promise 7: fail");
        all.test("The power fails when n more bytes have been written (in place of what was said before): true;",
            EdgesOfWriting::fail);
        all.test("false when n is less than 0.", EdgesOfWriting::failOfLessThanNothing);
    }

    // Commit

    private static void nothing(Check check) {
        Twins.unchanged(check, "a new object", "0", () -> new PostingShelf(64), PostingShelf::commit);
        Twins.unchanged(check, "a draft alone", "0", Settings::draftAlone, PostingShelf::commit);
        Twins.unchanged(check, "all is written", "0", () -> Shelf.ofSegments(800, 3), PostingShelf::commit);
        Twins.unchanged(check, "ten segments", "0", () -> Shelf.ofSegments(800, 10), PostingShelf::commit);
        Twins.unchanged(check, "no byte is free", "0", () -> Settings.with64(64), PostingShelf::commit);
        Twins.unchanged(check, "the buffer is empty again", "0", EdgesOfWriting::withBufferEmptied, PostingShelf::commit);
        for (boolean merges : COMMIT_AND_MERGE) {
            Twins.unchanged(check, "all was cut", "0", () -> Settings.afterCut(merges), PostingShelf::commit);
        }
    }

    private static PostingShelf withBufferEmptied() {
        PostingShelf x = Shelf.ofSegments(800, 2);
        Shelf.put(x, 3, 1);
        x.delete(3);
        return x;
    }

    private static void newSegment(Check check) {
        PostingShelf x = Shelf.ofSegments(800, 1);
        String first = Shelf.bytes(x, 0);
        for (int key = 2; key <= 13; key++) {
            Shelf.put(x, key, 1);
        }
        x.type(9);
        x.commit();
        check.due("a segment more", x::segments, 2);
        check.same("the one before stays", Shelf.bytes(x, 0), first);
        check.due("all twelve are in the one behind", () -> x.at(1, 0), 12);
        check.due("none is in the buffer", x::buffered, 0);
        check.due("the draft is not in it", () -> x.type(9), 2);
        check.due("nor a document", x::documents, 13);
        x.delete(2);
        check.due("none in the buffer: a list alone", x::commit, 1 + 2 + 3);
        check.due("and no segment", x::segments, 2);
        x.add(14);
        x.commit();
        check.same("and no number", Shelf.bytes(x, LIST), "3 1 0 2 1 0 3 0");
    }

    private static void doomedBecomeDeleted(Check check) {
        PostingShelf x = Settings.rich();
        x.delete(12);
        check.due("doomed ones are there", x::documents, 5);
        x.commit();
        check.same("deleted, beside those that were before", Shelf.bytes(x, LIST), "4 1 2 1 1 2 1 1 3 1 0 4 0");
        check.due("no more there, but the buffer's are", x::documents, 5);
        check.due("nothing is doomed any more", x::commit, 0);
        check.holdsNot("deleted already", x.delete(21));
        check.holdsNot("deleted already", x.delete(12));
        check.holds("another one is not", x.delete(20));
    }

    private static void leftOut(Check check) {
        PostingShelf x = Shelf.ofSegments(800, 5);
        Shelf.put(x, 6, 1);
        Shelf.put(x, 7, 1);
        x.commit();
        x.delete(1);
        x.delete(3);
        x.delete(7);
        check.due("the first and one between", x::commit, 1 + 3 * 2 + 3);
        check.same("the others stay", Shelf.bytes(x, LIST), "4 2 0 4 0 5 0 6 1 1");
        x.delete(6);
        check.due("the last one, deleted by and by", x::commit, 1 + 3 * 2);
        check.same("its documents are deleted all", Shelf.bytes(x, LIST), "3 2 0 4 0 5 0");
        x.delete(2);
        x.delete(4);
        x.delete(5);
        Shelf.put(x, 8, 1);
        check.due("all but the new one", x::commit, 8 + 3);
        check.same("the new one alone", Shelf.shown(x), "documents 1 buffered 0 segments 1 free 789 list 1 7 0"
            + " | 1 8 1 1 1 0 1 0");
        x.delete(8);
        check.due("all", x::commit, 1);
        check.same("none", Shelf.shown(x), "documents 0 buffered 0 segments 0 free 799 list 0");
    }

    private static void newList(Check check) {
        PostingShelf x = Shelf.ofSegments(800, 2);
        check.same("with a new segment", Shelf.bytes(x, LIST), "2 1 0 2 0");
        Shelf.put(x, 3, 1);
        x.delete(1);
        check.same("not yet", Shelf.bytes(x, LIST), "2 1 0 2 0");
        x.commit();
        check.same("with one less and one more", Shelf.bytes(x, LIST), "2 2 0 3 0");
        x.delete(2);
        x.commit();
        check.same("without a new segment", Shelf.bytes(x, LIST), "1 3 0");
    }

    private static void nextNumber(Check check) {
        PostingShelf x = Shelf.ofSegments(800, 3);
        check.same("from 1 on", Shelf.bytes(x, LIST), "3 1 0 2 0 3 0");
        x.merge(0, 1);
        x.delete(3);
        x.commit();
        check.same("a list alone has none", Shelf.bytes(x, LIST), "1 4 0");
        Shelf.commitOne(x, 3);
        check.same("after the merged one and those that are gone", Shelf.bytes(x, LIST), "2 4 0 5 0");
        x.delete(1);
        x.delete(2);
        x.delete(3);
        x.commit();
        Shelf.commitOne(x, 0);
        check.same("never anew from 1", Shelf.bytes(x, LIST), "1 6 0");
        for (int number = 7; number < 126; number += 2) {
            Shelf.commitOne(x, number);
            x.merge(0, 1);
        }
        Shelf.commitOne(x, 126);
        check.same("the last of one byte", Shelf.bytes(x, LIST), "2 126 0 127 0");
        Shelf.commitOne(x, 127);
        check.same("the first of two bytes", Shelf.bytes(x, LIST), "3 126 0 127 0 128 1 0");
        PostingShelf refused = Settings.noRoomToCommit();
        check.illegalState("no room", refused::commit);
        refused.delete(6);
        refused.commit();
        refused.add(6);
        refused.commit();
        check.same("what was refused has none", Shelf.bytes(refused, LIST), "5 2 0 3 0 4 0 5 0 6 0");
    }

    // Merge

    private static void inTheirPlace(Check check) {
        int[][] places = {{0, 1}, {1, 3}, {3, 4}, {0, 4}};
        String[] lists = {"4 6 0 3 0 4 0 5 0", "3 1 0 6 0 5 0", "4 1 0 2 0 3 0 6 0", "1 6 0"};
        String[] merged = {"2 1 1 1 1 1 2 0 1 0 1 1 0", "3 2 1 1 1 1 1 1 3 0 1 0 1 1 0 1 1 0",
            "2 4 1 1 1 1 2 0 1 0 1 1 0", "5 1 1 1 1 1 1 1 1 1 1 1 5 0 1 0 1 1 0 1 1 0 1 1 0 1 1 0"};
        for (int n = 0; n < places.length; n++) {
            PostingShelf x = Shelf.ofSegments(800, 5);
            int i = places[n][0];
            int j = places[n][1];
            int before = i - 1;
            String first = Shelf.bytes(x, before < 0 ? LIST : before);
            x.merge(i, j);
            check.same("the order with " + i + " .. " + j, Shelf.bytes(x, LIST), lists[n]);
            check.same("one of " + i + " .. " + j, Shelf.bytes(x, i), merged[n]);
            check.holds("the one before it stays", before < 0 || Shelf.bytes(x, before).equals(first));
            check.due("as many as there were less j - i", x::segments, 5 - (j - i));
        }
    }

    private static void mergeOfNotDeleted(Check check) {
        PostingShelf x = Settings.rich();
        x.merge(0, 1);
        check.same("11 is deleted", Shelf.bytes(x, 0), "4 10 3 2 2 8 1 1 2 1 3 0 2 0 2 2 1 0 1 1 1 2 1 0 1 1 3 1 1 2 0 1"
            + " 4 1 3 1 0");
        x.merge(0, 1);
        check.same("30 is deleted, the first of its segment", Shelf.bytes(x, 0), "5 10 3 2 2 8 1 1 2 10 2"
            + " 1 4 0 2 0 2 2 1 0 1 1 1 1 1 0 2 2 0 1 1 4 1 1 3 1 1 2 0 1 4 1 3 1 0");
        PostingShelf y = Shelf.ofSegments(800, 1);
        Shelf.put(y, 2, 1);
        Shelf.put(y, 9, 1);
        y.commit();
        y.delete(9);
        y.commit();
        y.merge(0, 1);
        check.same("9 is deleted, the last of all", Shelf.shown(y), "documents 2 buffered 0 segments 1 free 784"
            + " list 1 3 0 | 2 1 1 1 1 1 2 0 1 0 1 1 0");
    }

    private static void mergeOfDoomed(Check check) {
        PostingShelf x = Settings.rich();
        int before = x.documents();
        x.merge(0, 1);
        check.due("doomed ones are there still", x::documents, before);
        check.holdsNot("doomed already", x.delete(21));
        x.commit();
        check.same("deleted by the commit, with the new ordinal", Shelf.bytes(x, LIST), "3 4 1 3 3 1 0 5 0");
        check.due("no more there, but the buffer's two are", x::documents, before - 1 + 2);
        PostingShelf beside = Shelf.ofSegments(800, 4);
        beside.delete(1);
        beside.delete(4);
        beside.merge(1, 2);
        check.same("those beside it stay doomed too", Shelf.bytes(beside, LIST), "3 1 0 5 0 4 0");
        check.due("and a commit deletes them", beside::commit, 3);
    }

    /** A commit leaves out a segment of deleted ones alone, so a merge never meets one: all it can meet is doomed. */
    private static void mergeOfNone(Check check) {
        PostingShelf doomed = Shelf.ofSegments(800, 2);
        doomed.delete(1);
        doomed.delete(2);
        check.due("all are doomed: a segment", () -> doomed.merge(0, 1), 13 + 3);
        check.due("one", doomed::segments, 1);
        check.due("of all of them", doomed::documents, 2);
        check.due("a commit leaves none", doomed::commit, 1);
        check.due("none", doomed::segments, 0);
        PostingShelf deleted = Shelf.ofSegments(800, 3);
        deleted.delete(1);
        deleted.delete(2);
        deleted.commit();
        check.illegalArgument("all are deleted: their segments are gone", () -> deleted.merge(0, 1));
        check.same("and the next comes first", Shelf.bytes(deleted, LIST), "1 3 0");
    }

    private static void newListOfMerge(Check check) {
        PostingShelf x = Settings.rich();
        x.merge(1, 2);
        check.same("of the merged one, none is deleted; others keep theirs", Shelf.bytes(x, LIST), "2 1 1 1 4 0");
        PostingShelf y = Settings.rich();
        y.merge(0, 1);
        check.same("those behind keep theirs too", Shelf.bytes(y, LIST), "2 4 0 3 1 0");
        y.merge(0, 1);
        check.same("one of all", Shelf.bytes(y, LIST), "1 5 0");
    }

    private static void nextNumberOfMerge(Check check) {
        PostingShelf x = Shelf.ofSegments(800, 4);
        x.merge(2, 3);
        x.merge(0, 1);
        check.same("one after the other", Shelf.bytes(x, LIST), "2 6 0 5 0");
        Shelf.commitOne(x, 5);
        check.same("and a commit after them", Shelf.bytes(x, LIST), "3 6 0 5 0 7 0");
        PostingShelf refused = Settings.noRoomToMerge();
        check.illegalState("no room", () -> refused.merge(0, 1));
        refused.commit();
        check.same("what was refused has none", Shelf.bytes(refused, LIST), "5 1 0 3 0 4 0 5 0 6 0");
    }

    // Room

    private static void room(Check check) {
        check.due("a segment and a list fit", () -> Shelf.commitOne(Shelf.ofSegments(72, 5), 6), 8 + 13);
        check.illegalState("a byte is missing", () -> Shelf.commitOne(Shelf.ofSegments(71, 5), 6));
        check.due("beside a segment that goes", () -> commitBesideDoomed(Shelf.ofSegments(70, 5)), 8 + 11);
        check.illegalState("what goes is used before", () -> commitBesideDoomed(Shelf.ofSegments(69, 5)));
        check.due("a list alone fits", () -> deleteOne(Settings.with64(68)), 4);
        check.illegalState("a list alone lacks a byte", () -> deleteOne(Settings.with64(67)));
        check.due("a list of none fits", () -> deleteAll(Settings.with64(65)), 1);
        check.illegalState("a list of none lacks a byte", () -> deleteAll(Settings.with64(64)));
        check.due("a merge fits", () -> Shelf.ofSegments(73, 5).merge(0, 1), 13 + 9);
        check.illegalState("a merge lacks a byte", () -> Shelf.ofSegments(72, 5).merge(0, 1));
        check.due("a merge of all fits", () -> Shelf.ofSegments(82, 5).merge(0, 4), 28 + 3);
        check.illegalState("a merge of all lacks a byte", () -> Shelf.ofSegments(81, 5).merge(0, 4));
    }

    private static int commitBesideDoomed(PostingShelf x) {
        x.delete(1);
        return Shelf.commitOne(x, 6);
    }

    private static int deleteOne(PostingShelf x) {
        x.delete(1);
        return x.commit();
    }

    private static int deleteAll(PostingShelf x) {
        for (int key = 1; key <= 6; key++) {
            x.delete(key);
        }
        return x.commit();
    }

    private static void oldIsGone(Check check) {
        PostingShelf x = Shelf.ofSegments(100, 5);
        check.due("of five lists the last is there", x::free, 100 - 5 * 8 - 11);
        x.delete(3);
        x.commit();
        check.due("a segment that was left out", x::free, 100 - 4 * 8 - 9);
        x.merge(1, 2);
        check.due("two that were merged", x::free, 100 - 2 * 8 - 13 - 7);
        x.merge(0, 2);
        check.due("all that were merged", x::free, 100 - 23 - 3);
        x.delete(1);
        x.commit();
        check.due("a list alone", x::free, 100 - 23 - 4);
        deleteAll(x);
        check.due("all", x::free, 100 - 1);
    }

    // Power

    private static void power(Check check) {
        int[][] commits = {{0, CUT}, {10, CUT}, {11, 11}, {12, 11}, {MAX, 11}};
        for (int[] pair : commits) {
            PostingShelf x = new PostingShelf(64);
            x.fail(pair[0]);
            check.due("a commit of 11 bytes with " + pair[0], () -> Shelf.commitOne(x, 1), pair[1]);
        }
        int[][] merges = {{0, CUT}, {21, CUT}, {22, 22}, {23, 22}, {MAX, 22}};
        for (int[] pair : merges) {
            PostingShelf x = Shelf.ofSegments(800, 5);
            x.fail(pair[0]);
            check.due("a merge of 22 bytes with " + pair[0], () -> x.merge(0, 1), pair[1]);
        }
        int[][] lists = {{0, CUT}, {1, 1}};
        for (int[] pair : lists) {
            PostingShelf x = Shelf.ofSegments(64, 1);
            x.delete(1);
            x.fail(pair[0]);
            check.due("a list of one byte with " + pair[0], x::commit, pair[1]);
        }
    }

    private static void lessPower(Check check) {
        int[][] rows = {{14, CUT, 16, 13}, {15, 15, CUT, 17}, {32, 15, CUT, 17}, {33, 15, 18, CUT}, {47, 15, 18, CUT},
            {48, 15, 18, 15}};
        for (int[] row : rows) {
            PostingShelf x = Shelf.ofSegments(800, 2);
            x.fail(row[0]);
            check.due("with " + row[0] + ": a commit", () -> Shelf.commitOne(x, 3), row[1]);
            check.due("with " + row[0] + ": nothing", x::commit, 0);
            check.illegalArgument("with " + row[0] + ": a merge refused", () -> x.merge(0, 9));
            check.due("with " + row[0] + ": a merge", () -> x.merge(0, 1), row[2]);
            check.due("with " + row[0] + ": a commit more", () -> Shelf.commitOne(x, 4), row[3]);
        }
        PostingShelf last = Shelf.ofSegments(800, 1);
        last.fail(MAX);
        Shelf.commitOne(last, 2);
        check.due("much power", () -> Shelf.commitOne(last, 3), 8 + 7);
    }

    private static void cutLeavesDisk(Check check) {
        PostingShelf before = Settings.rich();
        before.delete(40);
        before.delete(41);
        for (boolean merges : COMMIT_AND_MERGE) {
            check.same("as before", Shelf.shown(Settings.afterCut(merges)), Shelf.shown(before));
        }
        PostingShelf first = new PostingShelf(64);
        first.fail(10);
        check.due("the first commit", () -> Shelf.commitOne(first, 1), CUT);
        check.same("no list as before", Shelf.shown(first), "documents 0 buffered 0 segments 0 free 64 list");
    }

    private static void cutUsesNoNumber(Check check) {
        for (boolean merges : COMMIT_AND_MERGE) {
            PostingShelf x = Settings.afterCut(merges);
            Shelf.commitOne(x, 50);
            check.same("the next number is 4", Shelf.bytes(x, LIST), "4 1 1 1 2 0 3 1 0 4 0");
        }
    }

    private static void cutEmptiesDraftAndBuffer(Check check) {
        for (boolean merges : COMMIT_AND_MERGE) {
            PostingShelf x = Settings.afterCut(merges);
            check.due("no document", x::buffered, 0);
            check.illegalState("no term", () -> x.add(50));
            check.due("the first term", () -> x.type(9), 1);
            check.illegalArgument("a segment's key", () -> x.add(31));
            check.due("a key that was the buffer's", () -> x.add(40), 1);
            x.commit();
            check.same("of all that was typed the last", Shelf.bytes(x, 3), "1 40 1 9 1 0 1 0");
        }
    }

    private static void cutSparesDoomed(Check check) {
        for (boolean merges : COMMIT_AND_MERGE) {
            PostingShelf x = Settings.afterCut(merges);
            check.due("nothing is to be written", x::commit, 0);
            check.holds("21 is not doomed", x.delete(21));
            check.holdsNot("11 is deleted as before", x.delete(11));
            check.holdsNot("40 is no more in the buffer", x.delete(40));
            PostingShelf all = Settings.rich();
            for (int key = 10; key <= 31; key++) {
                all.delete(key);
            }
            all.fail(0);
            check.due("cut with all of them doomed", () -> merges ? all.merge(0, 2) : all.commit(), CUT);
            check.due("nothing is to be written again", all::commit, 0);
            for (int key : new int[] {10, 12, 20, 21, 31}) {
                check.holds(key + " is not doomed", all.delete(key));
            }
        }
    }

    private static void cutOnlyOnce(Check check) {
        for (boolean merges : COMMIT_AND_MERGE) {
            PostingShelf x = Settings.afterCut(merges);
            check.due("a commit", () -> Shelf.commitOne(x, 50), 8 + 11);
            check.due("a merge", () -> x.merge(2, 3), 18 + 8);
            check.due("another commit", () -> Shelf.commitOne(x, 51), 8 + 10);
            x.fail(0);
            check.due("said so anew", () -> Shelf.commitOne(x, 52), CUT);
            check.due("and once more not again", () -> Shelf.commitOne(x, 52), 8 + 12);
        }
    }

    private static void cutLeavesPile(Check check) {
        for (boolean merges : COMMIT_AND_MERGE) {
            PostingShelf x = Settings.afterCut(merges);
            check.due("the top", x::count, 1);
            check.due("two below", x::discard, 2);
            check.due("the one below", () -> x.places(10), 4);
            check.due("one below", x::discard, 1);
            check.due("the last", x::count, 4);
            check.due("none below", x::discard, 0);
        }
    }

    // Promise 5

    private static void commitAnswers(Check check) {
        check.due("nothing", () -> new PostingShelf(64).commit(), 0);
        check.due("a list of one byte", () -> deleteAll(Shelf.ofSegments(800, 6)), 1);
        check.due("a segment and a list", () -> Settings.rich().commit(), 23 + 12);
        PostingShelf x = Settings.rich();
        x.fail(34);
        check.due("cut", x::commit, -1);
        check.due("nothing after that", x::commit, 0);
    }

    private static void commitWithoutRoom(Check check) {
        Twins.refused(check, "no room", STATE, Settings::noRoomToCommit, PostingShelf::commit);
        Twins.refused(check, "no room for a list", STATE, EdgesOfWriting::withFullDiskAndDoomed, PostingShelf::commit);
    }

    private static PostingShelf withFullDiskAndDoomed() {
        PostingShelf x = Settings.with64(64);
        x.delete(1);
        return x;
    }

    private static void commitOfEleventh(Check check) {
        Twins.refused(check, "an eleventh", STATE, Settings::tenSegments, PostingShelf::commit);
        PostingShelf x = Settings.tenSegments();
        x.delete(11);
        check.due("ten as before, and a new list", x::commit, 1 + 3 + 9 * 2);
        Shelf.put(x, 12, 1);
        check.illegalState("an eleventh", x::commit);
        x.delete(5);
        check.due("one goes and one comes", x::commit, 14 + 1 + 3 + 9 * 2);
        check.due("ten", x::segments, 10);
    }

    // Promise 6

    private static void mergeAnswers(Check check) {
        check.due("a segment and a list", () -> Settings.rich().merge(0, 1), 37 + 6);
        check.due("of the last place", () -> Settings.rich().merge(1, 2), 28 + 6);
        check.due("of all places", () -> Settings.rich().merge(0, 2), 45 + 3);
        PostingShelf x = Settings.rich();
        x.fail(42);
        check.due("cut", () -> x.merge(0, 1), -1);
    }

    private static void mergeFromTooLow(Check check) {
        Twins.refused(check, "i is -1", ARGUMENT, Settings::rich, x -> x.merge(-1, 1));
        Twins.refused(check, "i is the least int", ARGUMENT, Settings::rich, x -> x.merge(MIN, 2));
    }

    private static void mergeToNoSegment(Check check) {
        Twins.refused(check, "j is how many there are", ARGUMENT, Settings::rich, x -> x.merge(0, 3));
        Twins.refused(check, "j is the greatest int", ARGUMENT, Settings::rich, x -> x.merge(1, MAX));
        Twins.refused(check, "no segment", ARGUMENT, () -> new PostingShelf(64), x -> x.merge(0, 1));
        Twins.refused(check, "one segment", ARGUMENT, () -> Shelf.ofSegments(64, 1), x -> x.merge(0, 1));
        Twins.refused(check, "all three are wrong", ARGUMENT, Settings::rich, x -> x.merge(-1, -2));
    }

    private static void mergeOfOne(Check check) {
        for (int i = 0; i < 3; i++) {
            int place = i;
            Twins.refused(check, "i is j", ARGUMENT, Settings::rich, x -> x.merge(place, place));
        }
        Twins.refused(check, "i is j + 1", ARGUMENT, Settings::rich, x -> x.merge(1, 0));
        Twins.refused(check, "i is the greatest int", ARGUMENT, Settings::rich, x -> x.merge(MAX, 2));
        Twins.refused(check, "j is the least int", ARGUMENT, Settings::rich, x -> x.merge(0, MIN));
    }

    private static void mergeWithoutRoom(Check check) {
        Twins.refused(check, "no room", STATE, Settings::noRoomToMerge, x -> x.merge(0, 1));
        Twins.refused(check, "no room for all", STATE, Settings::noRoomToMerge, x -> x.merge(0, 4));
    }

    // Promise 7

    private static void fail(Check check) {
        int[] powers = {0, 1, 10, 11, MAX};
        for (int before : powers) {
            PostingShelf less = new PostingShelf(64);
            check.holds("said", less.fail(before));
            check.holds("said anew", less.fail(10));
            check.due("a byte too few, in place of " + before, () -> Shelf.commitOne(less, 1), CUT);
            PostingShelf enough = new PostingShelf(64);
            enough.fail(before);
            enough.fail(11);
            check.due("enough, in place of " + before, () -> Shelf.commitOne(enough, 1), 11);
            enough.fail(MAX);
            check.due("said anew after a part was used", () -> Shelf.commitOne(enough, 2), 13);
        }
        check.holds("at once", new PostingShelf(64).fail(0));
        check.holds("the greatest", new PostingShelf(64).fail(MAX));
    }

    private static void failOfLessThanNothing(Check check) {
        for (int n : new int[] {-1, -2, MIN}) {
            Twins.unchanged(check, "fail(" + n + ")", "0", Settings::rich, x -> Shelf.asInt(x.fail(n)));
        }
    }

    private EdgesOfWriting() {
    }
}
