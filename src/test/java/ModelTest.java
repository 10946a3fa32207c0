import java.util.TreeMap;

/** Long runs of calls, each answer compared with the model's; the runs are the same every time. */
public final class ModelTest {
    private static final int RUNS = 4000;
    private static final int CALLS = 512;
    private static final int[] ROOMS = {Integer.MIN_VALUE, 63, 64, 65, 100, 150, 200, 300, 500, 799, 800, 801, 9999};
    private static final int[] ODD = {Integer.MIN_VALUE, -3, -2, -1, 0, 7, 8, 10, 11, 12, 15, 16, 17, Integer.MAX_VALUE};
    /** What some run must have shown, or the runs test less than they seem to. */
    private static final String[] MUST_SHOW = {
        "commit CUT", "commit 0", "commit written", "commit throws.IllegalStateException",
        "merge CUT", "merge written", "merge throws.IllegalArgumentException", "merge throws.IllegalStateException",
        "type throws.IllegalArgumentException", "type throws.IllegalStateException",
        "add throws.IllegalArgumentException", "add throws.IllegalStateException",
        "want throws.IllegalStateException", "combine throws.IllegalArgumentException",
        "combine throws.IllegalStateException", "combine throws.NoSuchElementException",
        "discard throws.NoSuchElementException", "count throws.NoSuchElementException",
        "match throws.NoSuchElementException", "places throws.NoSuchElementException", "places NONE",
        "ten segments", "a segment left out", "a deleted document beside a kept one",
    };

    private final Check check = new Check();
    private final TreeMap<String, Integer> shown = new TreeMap<>();
    private long seed = 20261115;
    private PostingShelf shelf;
    private Model model;
    private int run;
    private int calls;
    private int terms;
    private int mostTerms;
    private int keyStep;
    private int writesIn100;
    private int mergesIn100;
    private int refusals;

    public static void main(String[] args) {
        new ModelTest().runAll();
    }

    private void runAll() {
        for (run = 0; run < RUNS && !check.hasFailed(); run++) {
            runOne();
        }
        for (String what : MUST_SHOW) {
            check.holds("some run shows: " + what, shown.containsKey(what));
        }
        check.end("ModelTest");
    }

    private void runOne() {
        int room = ROOMS[below(ROOMS.length)];
        shelf = new PostingShelf(room);
        model = new Model(room);
        calls = 0;
        terms = 1 + below(16);
        mostTerms = 1 + below(8);
        keyStep = 1 << below(24);
        writesIn100 = 5 + below(60);
        mergesIn100 = below(50);
        refusals = 0;
        for (int i = below(9); i > 0; i--) {
            ask();
        }
        // Some runs read more bytes than others, and those have fewer calls that change something.
        int changing = 150 + below(CALLS - 200);
        // A full disk stays full: little is to be seen there but refusals.
        while (calls < changing && refusals < 6 && !check.hasFailed()) {
            change();
        }
        while (calls < CALLS && !check.hasFailed()) {
            look();
        }
    }

    private void change() {
        int kind = below(100);
        if (kind < 40) {
            makeDocument();
        } else if (kind < 50) {
            write();
        } else if (kind < 62) {
            delete(aKey());
        } else if (kind < 65) {
            int n = below(4) == 0 ? odd() : below(120);
            same("fail(" + n + ")", () -> shelf.fail(n) ? 1 : 0, () -> model.fail(n) ? 1 : 0);
        } else if (kind < 90) {
            ask();
        } else {
            look();
        }
        if (below(100) < writesIn100) {
            write();
        }
    }

    private void makeDocument() {
        int many = below(30) == 0 ? below(11) : 1 + below(mostTerms);
        for (int i = 0; i < many; i++) {
            int t = below(60) == 0 ? odd() : below(terms);
            same("type(" + t + ")", () -> shelf.type(t), () -> model.type(t));
        }
        int key = below(12) == 0 ? odd() : below(12) == 0 ? aKey() : model.greatestKey() + 1 + below(keyStep);
        same("add(" + key + ")", () -> shelf.add(key), () -> model.add(key));
    }

    private void write() {
        if (below(8) == 0) {
            doomAll();
        }
        int before = model.segments();
        boolean merges = before >= 2 ? below(100) < mergesIn100 || before == 10 && below(2) == 0 : below(40) == 0;
        if (!merges) {
            String told = same("commit()", () -> shelf.commit(), () -> model.commit());
            noteWritten("commit", told);
            refusals += told.equals("throws.IllegalStateException") && before < 10 ? 1 : 0;
            noteIf(model.segments() < before, "a segment left out");
        } else {
            int i = below(8) == 0 ? odd() : below(Math.max(1, before - 1));
            int j = below(8) == 0 ? odd() : i + 1 + below(Math.max(1, before - i));
            String told = same("merge(" + i + ", " + j + ")", () -> shelf.merge(i, j), () -> model.merge(i, j));
            noteWritten("merge", told);
        }
        noteIf(model.segments() == 10, "ten segments");
        noteIf(model.segments() > 0 && model.size(-1) > 1 + 3 * model.segments(), "a deleted document beside a kept one");
        same("segments()", () -> shelf.segments(), () -> model.segments());
        same("free()", () -> shelf.free(), () -> model.free());
    }

    /** Deletes the documents of a segment one after the other, so that whole segments go. */
    private void doomAll() {
        for (int i = below(3); i < 6 && i < model.documents(); i++) {
            delete(model.keyAt(i));
        }
    }

    private void delete(int key) {
        same("delete(" + key + ")", () -> shelf.delete(key) ? 1 : 0, () -> model.delete(key) ? 1 : 0);
    }

    private void ask() {
        int kind = below(10);
        int a = below(12) == 0 ? odd() : below(kind < 5 ? terms : 11);
        if (kind < 5) {
            same("want(" + a + ")", () -> shelf.want(a), () -> model.want(a));
        } else if (kind < 8) {
            same("combine(" + a + ")", () -> shelf.combine(a), () -> model.combine(a));
        } else if (kind < 9) {
            same("discard()", () -> shelf.discard(), () -> model.discard());
        } else {
            find();
        }
    }

    private void find() {
        same("count()", () -> shelf.count(), () -> model.count());
        int i = below(4) == 0 ? odd() : below(6);
        same("match(" + i + ")", () -> shelf.match(i), () -> model.match(i));
        int key = aKey();
        String told = same("places(" + key + ")", () -> shelf.places(key), () -> model.places(key));
        noteIf(told.equals("-2"), "places NONE");
    }

    private void look() {
        int kind = below(12);
        int s = below(9) == 0 ? odd() : below(model.segments() + 2) - 1;
        int k = below(15) == 0 ? odd() : below(Math.max(1, model.size(s) + 1));
        if (kind == 0) {
            same("documents()", () -> shelf.documents(), () -> model.documents());
        } else if (kind == 1) {
            same("buffered()", () -> shelf.buffered(), () -> model.buffered());
        } else if (kind == 2) {
            same("size(" + s + ")", () -> shelf.size(s), () -> model.size(s));
        } else if (kind == 3) {
            find();
        } else {
            same("at(" + s + ", " + k + ")", () -> shelf.at(s, k), () -> model.at(s, k));
        }
    }

    /** Mostly the key of some document that is there. */
    private int aKey() {
        int kind = below(6);
        if (kind == 0) {
            return odd();
        }
        return kind == 1 ? model.greatestKey() : model.keyAt(below(Math.max(1, model.documents())));
    }

    private String same(String call, Check.Call real, Check.Call due) {
        calls++;
        if (calls > CALLS) {
            return "";
        }
        String told = Check.told(due);
        check.same("run " + run + ", call " + calls + ": " + call, Check.told(real), told);
        noteIf(told.startsWith("throws."), call.substring(0, call.indexOf('(')) + " " + told);
        return told;
    }

    private void noteWritten(String name, String told) {
        noteIf(told.equals("-1"), name + " CUT");
        noteIf(told.equals("0"), name + " 0");
        noteIf(told.matches("[1-9][0-9]*"), name + " written");
    }

    private void noteIf(boolean seen, String what) {
        if (seen) {
            shown.merge(what, 1, Integer::sum);
        }
    }

    private int odd() {
        return ODD[below(ODD.length)];
    }

    /** The next number of a fixed row that looks like chance. */
    private int below(int bound) {
        seed = seed * 6364136223846793005L + 1442695040888963407L;
        return (int) ((seed >>> 33) % bound);
    }
}
