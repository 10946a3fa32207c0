import java.util.ArrayList;
import java.util.LinkedHashMap;
import java.util.List;
import java.util.Map;

/**
 * Two objects with the same calls behind them, one of which then gets a call that must change nothing: whatever
 * is asked of both afterwards, they answer alike. What is hidden shows only by calls that change something, so
 * every row of questions gets twins of its own.
 */
final class Twins {
    /** Makes an object, each time the same. */
    interface Maker {
        PostingShelf make();
    }

    /** A call of the face. */
    interface CallOn {
        long answer(PostingShelf x);
    }

    /** A row of questions: what was answered. */
    private interface Questions {
        String answers(PostingShelf x);
    }

    private static final int MAX = Integer.MAX_VALUE;
    private static final int[] KEYS = {-1, 0, 1, 2, 3, 4, 5, 6, 7, 8, 9, 10, 11, 12, 20, 21, 22, 30, 31, 40, 41, 42, MAX};
    private static final Map<String, Questions> QUESTIONS = questions();
    private static final List<Questions> WRITINGS = List.of(Twins::writes, Twins::erases);

    /** Checks what a call on such an object throws, and that it leaves everything as it was. */
    static void refused(Check check, String what, String exception, Maker maker, CallOn call) {
        unchanged(check, what, "throws." + exception, maker, call);
    }

    /** Checks what a call on such an object answers, and that it leaves everything as it was. */
    static void unchanged(Check check, String what, String due, Maker maker, CallOn call) {
        for (Map.Entry<String, Questions> row : QUESTIONS.entrySet()) {
            PostingShelf plain = maker.make();
            PostingShelf called = maker.make();
            check.same(what, Check.told(() -> call.answer(called)), due);
            check.same(what + ": " + row.getKey() + " as before", row.getValue().answers(called), row.getValue().answers(plain));
        }
        for (Questions writing : WRITINGS) {
            for (int n : powers(maker, writing)) {
                PostingShelf plain = maker.make();
                PostingShelf called = maker.make();
                plain.fail(n);
                called.fail(n);
                check.same(what + ", with power", Check.told(() -> call.answer(called)), due);
                check.same(what + ": power " + n + " as before", writing.answers(called), writing.answers(plain));
            }
        }
    }

    /** Powers that end just at, and a byte before, what is written by and by, so that a byte of them shows. */
    private static List<Integer> powers(Maker maker, Questions writing) {
        List<Integer> powers = new ArrayList<>(List.of(0));
        PostingShelf x = maker.make();
        x.fail(MAX);
        String answers = writing.answers(x);
        int sum = 0;
        for (String written : answers.substring(0, answers.indexOf('\n')).trim().split(" ")) {
            sum += written.startsWith("throws.") ? 0 : Integer.parseInt(written);
            powers.add(Math.max(0, sum - 1));
            powers.add(sum);
        }
        return powers;
    }

    private static Map<String, Questions> questions() {
        Map<String, Questions> rows = new LinkedHashMap<>();
        rows.put("what is seen", Shelf::shown);
        rows.put("pile", Twins::pile);
        rows.put("leaves", Twins::leaves);
        rows.put("draft", Twins::draft);
        rows.put("buffer and doomed", Twins::deletes);
        rows.put("what is written", Twins::writes);
        rows.put("what is written when all is deleted", Twins::erases);
        rows.put("what is merged", Twins::merges);
        return rows;
    }

    /** Every query on the pile, from the top down. */
    private static String pile(PostingShelf x) {
        StringBuilder text = new StringBuilder();
        for (int n = 0; n < 9; n++) {
            text.append(Check.told(x::count)).append(':');
            for (int key : KEYS) {
                text.append(' ').append(Check.told(() -> x.places(key)));
            }
            text.append(' ').append(Check.told(x::discard)).append('\n');
        }
        return text.toString();
    }

    /** How the queries can be combined, and what comes of it. */
    private static String leaves(PostingShelf x) {
        StringBuilder text = new StringBuilder();
        for (int n = 0; n < 9; n++) {
            text.append(Check.told(() -> x.combine(1))).append(' ').append(Check.told(x::count)).append('\n');
        }
        return text.toString();
    }

    /** How much may be typed, and what becomes of all that was. */
    private static String draft(PostingShelf x) {
        StringBuilder text = new StringBuilder();
        for (int n = 0; n < 9; n++) {
            text.append(Check.told(() -> x.type(15))).append(' ');
        }
        x.fail(MAX);
        text.append(Check.told(() -> x.add(MAX))).append(' ').append(Check.told(x::commit)).append('\n');
        return text.append(Shelf.shown(x)).toString();
    }

    private static String deletes(PostingShelf x) {
        StringBuilder text = new StringBuilder();
        for (int key : KEYS) {
            text.append(x.delete(key)).append(' ').append(x.buffered()).append(' ');
        }
        x.fail(MAX);
        return text.append(Check.told(x::commit)).append('\n').append(Shelf.shown(x)).toString();
    }

    /** What is written when documents are added one by one; the first line is of the commits alone. */
    private static String writes(PostingShelf x) {
        StringBuilder written = new StringBuilder();
        StringBuilder others = new StringBuilder();
        for (int n = 5; n > 0; n--) {
            int key = MAX - n;
            written.append(Check.told(x::commit)).append(' ');
            others.append(Check.told(() -> x.type(1))).append(' ').append(Check.told(() -> x.add(key))).append(' ');
        }
        return written + "\n" + others + "\n" + Shelf.shown(x);
    }

    /** What is written when there is as little as can be: that finds room where more does not. */
    private static String erases(PostingShelf x) {
        for (int key : KEYS) {
            x.delete(key);
        }
        return Check.told(x::commit) + "\n" + Shelf.shown(x);
    }

    private static String merges(PostingShelf x) {
        x.fail(MAX);
        return Check.told(() -> x.merge(0, 1)) + " " + Check.told(x::commit) + "\n" + Shelf.shown(x);
    }

    private Twins() {
    }
}
