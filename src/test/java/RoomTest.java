import com.sun.management.ThreadMXBean;
import java.lang.management.ManagementFactory;

/** The dearest runs of calls fit the one room that all calls of a run live in. */
public final class RoomTest {
    private static final int MOST_CALLS = 512;
    private static final int CALLS_OF_A_QUERY = 17;
    /**
     * The room is 7.3 million fields and elements in 600,000 objects. A field takes a byte or more and an object
     * 16 or more, so what fits into as many bytes as fields fits the room.
     */
    private static final long MOST_BYTES = 7_300_000;

    private static final Check CHECK = new Check();

    public static void main(String[] args) {
        checkRoom("merges that find no room", RoomTest::mergesRefused);
        checkRoom("merges of many documents that find no room", RoomTest::longMergesRefused);
        checkRoom("commits that find no room", RoomTest::commitsRefused);
        checkRoom("queries of many leaves", RoomTest::queries);
        CHECK.end("RoomTest");
    }

    private static void checkRoom(String what, Runnable run) {
        ThreadMXBean threads = (ThreadMXBean) ManagementFactory.getThreadMXBean();
        long id = Thread.currentThread().getId();
        // What the first run loads and links is not the run's own.
        run.run();
        long before = threads.getThreadAllocatedBytes(id);
        run.run();
        long made = threads.getThreadAllocatedBytes(id) - before;
        CHECK.holds(what + " made " + made + " bytes", made > 0 && made <= MOST_BYTES);
    }

    private static void mergesRefused() {
        PostingShelf x = new PostingShelf(800);
        int calls = commitTwelve(x, 0, 8) + commitTwelve(x, 1, 8);
        for (; calls < MOST_CALLS; calls++) {
            CHECK.illegalState("no room to merge", () -> x.merge(0, 1));
        }
    }

    private static void longMergesRefused() {
        PostingShelf x = new PostingShelf(800);
        int calls = 0;
        for (int s = 0; s < 10; s++) {
            calls += commitTwelve(x, s, 1);
        }
        for (; calls < MOST_CALLS; calls++) {
            CHECK.illegalState("no room to merge", () -> x.merge(0, 9));
        }
    }

    private static void commitsRefused() {
        PostingShelf x = new PostingShelf(64);
        int calls = fill(x, 0, 8);
        for (; calls < MOST_CALLS; calls++) {
            CHECK.illegalState("no room to commit", x::commit);
        }
    }

    private static void queries() {
        PostingShelf x = new PostingShelf(800);
        int calls = commitTwelve(x, 0, 8);
        for (; calls + CALLS_OF_A_QUERY <= MOST_CALLS; calls += CALLS_OF_A_QUERY) {
            for (int t = 0; t < 8; t++) {
                x.want(t);
            }
            for (int i = 0; i < 7; i++) {
                x.combine(0);
            }
            CHECK.due("all twelve", x::count, 12);
            x.discard();
        }
    }

    /** Twelve documents with so many terms each: how many calls it took. */
    private static int fill(PostingShelf x, int round, int terms) {
        for (int d = 0; d < 12; d++) {
            for (int t = 0; t < terms; t++) {
                x.type(t);
            }
            x.add(12 * round + d);
        }
        return 12 * (terms + 1);
    }

    private static int commitTwelve(PostingShelf x, int round, int terms) {
        int calls = fill(x, round, terms);
        CHECK.holds("there is room", x.commit() > 0);
        return calls + 1;
    }
}
