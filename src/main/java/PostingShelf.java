import java.util.ArrayList;
import java.util.Arrays;
import java.util.NoSuchElementException;

/**
 * Documents that are rows of terms, kept in segments of packed numbers on a small disk and found again by
 * queries; what a power cut interrupts leaves what was written whole before.
 */
public final class PostingShelf {
    public static final int CUT = -1;
    public static final int NONE = -2;

    private static final int LEAST_ROOM = 64;
    private static final int MOST_ROOM = 800;
    private static final int TERMS = 16;
    private static final int MOST_PLACES = 8;
    private static final int MOST_BUFFERED = 12;
    private static final int MOST_SEGMENTS = 10;
    private static final int MOST_QUERIES = 8;
    private static final int MOST_LEAVES = 8;
    private static final int LIST = -1;

    private static final int BOTH = 0;
    private static final int EITHER = 1;
    private static final int BUT = 2;
    private static final int FOLLOW = 3;
    private static final int LAST_NEAR = 10;

    private final int room;
    private final Draft draft = new Draft();
    private final ArrayList<Query> pile = new ArrayList<>();
    // Every new segment is packed here first, so that only one that is written costs bytes of its own size.
    private final ByteRow page = new ByteRow(MOST_ROOM);
    private ArrayList<Document> buffer = new ArrayList<>();
    // A write is planned beside what the disk holds and then takes its place, so a refusal or a cut changes nothing.
    private Catalog disk = new Catalog();
    private Catalog plan = new Catalog();
    private int lastNumber = 0;
    private boolean powerFails = false;
    private int bytesToFailure = 0;

    public PostingShelf(int room) {
        this.room = Math.max(LEAST_ROOM, Math.min(MOST_ROOM, room));
    }

    public int type(int t) throws IllegalArgumentException, IllegalStateException {
        if (!isTerm(t)) {
            throw new IllegalArgumentException("no term");
        }
        if (draft.length >= MOST_PLACES) {
            throw new IllegalStateException("the draft is full");
        }
        draft.append(t);
        return draft.length;
    }

    public int add(int key) throws IllegalArgumentException, IllegalStateException {
        if (key <= greatestKey()) {
            throw new IllegalArgumentException("the key does not rise");
        }
        if (draft.length == 0 || buffer.size() >= MOST_BUFFERED) {
            throw new IllegalStateException("the draft is empty or the buffer is full");
        }
        buffer.add(new Document(key, draft));
        draft.clear();
        return buffer.size();
    }

    public boolean delete(int key) {
        for (int i = 0; i < buffer.size(); i++) {
            if (buffer.get(i).key == key) {
                buffer.remove(i);
                return true;
            }
        }
        Document found = disk.find(key);
        if (found == null || found.doomed) {
            return false;
        }
        found.doomed = true;
        return true;
    }

    public int commit() throws IllegalStateException {
        if (buffer.isEmpty() && !disk.hasDoomed()) {
            return 0;
        }
        plan.segments.clear();
        planToKeep(0, disk.segments.size(), true);
        int segmentBytes = planNewSegment(buffer);
        plan.writeList(true);
        if (plan.segments.size() > MOST_SEGMENTS || !findsRoom(segmentBytes)) {
            throw new IllegalStateException("no room, or too many segments");
        }
        int answer = writePlan(segmentBytes);
        if (answer != CUT) {
            disk.deleteDoomed();
            // The new segment holds the old buffer's row from now on.
            buffer = new ArrayList<>();
        }
        return answer;
    }

    public int merge(int i, int j) throws IllegalArgumentException, IllegalStateException {
        if (i < 0 || j >= disk.segments.size() || i >= j) {
            throw new IllegalArgumentException("not a run of segments");
        }
        plan.segments.clear();
        planToKeep(0, i, false);
        int segmentBytes = planNewSegment(disk.keptDocuments(i, j));
        planToKeep(j + 1, disk.segments.size(), false);
        plan.writeList(false);
        if (!findsRoom(segmentBytes)) {
            throw new IllegalStateException("no room");
        }
        return writePlan(segmentBytes);
    }

    public boolean fail(int n) {
        if (n < 0) {
            return false;
        }
        powerFails = true;
        bytesToFailure = n;
        return true;
    }

    public int want(int t) throws IllegalArgumentException, IllegalStateException {
        if (!isTerm(t)) {
            throw new IllegalArgumentException("no term");
        }
        if (pile.size() >= MOST_QUERIES) {
            throw new IllegalStateException("the pile is full");
        }
        pile.add(new Want(t));
        return pile.size();
    }

    public int combine(int what) throws IllegalArgumentException, NoSuchElementException, IllegalStateException {
        if (what < BOTH || what > LAST_NEAR) {
            throw new IllegalArgumentException("no way to combine");
        }
        int height = pile.size();
        if (height < 2) {
            throw new NoSuchElementException("fewer than two queries");
        }
        Query below = pile.get(height - 2);
        Query top = pile.get(height - 1);
        if (below.leaves + top.leaves > MOST_LEAVES) {
            throw new IllegalStateException("too many leaves");
        }
        pile.remove(height - 1);
        pile.set(height - 2, new Pair(what, below, top));
        return pile.size();
    }

    public int discard() throws NoSuchElementException {
        if (pile.isEmpty()) {
            throw new NoSuchElementException("no query");
        }
        pile.remove(pile.size() - 1);
        return pile.size();
    }

    public int count() throws NoSuchElementException {
        Query query = topQuery();
        if (query == null) {
            throw new NoSuchElementException("no query");
        }
        int found = 0;
        for (int s = 0; s < disk.segments.size(); s++) {
            found += disk.segments.get(s).countMatches(query);
        }
        return found;
    }

    public int match(int i) throws NoSuchElementException {
        Query query = topQuery();
        Document found = query == null || i < 0 ? null : disk.findMatch(query, i);
        if (found == null) {
            throw new NoSuchElementException("no query or no such document");
        }
        return found.key;
    }

    public int places(int key) throws NoSuchElementException {
        Query query = topQuery();
        if (query == null) {
            throw new NoSuchElementException("no query");
        }
        Document found = disk.find(key);
        return found == null ? NONE : query.holdsIn(found);
    }

    public int documents() {
        int kept = 0;
        for (int s = 0; s < disk.segments.size(); s++) {
            kept += disk.segments.get(s).countKept(false);
        }
        return kept;
    }

    public int buffered() {
        return buffer.size();
    }

    public int segments() {
        return disk.segments.size();
    }

    public int size(int s) {
        ByteRow row = bytesOf(s);
        return row == null ? NONE : row.length;
    }

    public int at(int s, int k) {
        ByteRow row = bytesOf(s);
        return row == null || k < 0 || k >= row.length ? NONE : row.bytes[k];
    }

    public int free() {
        return room - disk.countBytes();
    }

    private static boolean isTerm(int t) {
        return t >= 0 && t < TERMS;
    }

    /** The greatest key of the buffer and the segments, or -1: keys rise, so it is the last one's. */
    private int greatestKey() {
        if (!buffer.isEmpty()) {
            return buffer.get(buffer.size() - 1).key;
        }
        return disk.segments.isEmpty() ? -1 : disk.segments.get(disk.segments.size() - 1).lastKey();
    }

    private Query topQuery() {
        return pile.isEmpty() ? null : pile.get(pile.size() - 1);
    }

    /** The bytes of segment s, or of the list for LIST; null when there is no such segment. */
    private ByteRow bytesOf(int s) {
        if (s == LIST) {
            return disk.list;
        }
        return s < 0 || s >= disk.segments.size() ? null : disk.segments.get(s).row;
    }

    /** Plans that those of the segments from .. to - 1 stay that have a document left. */
    private void planToKeep(int from, int to, boolean doomedToo) {
        for (int s = from; s < to && s < disk.segments.size(); s++) {
            Segment segment = disk.segments.get(s);
            if (segment.countKept(doomedToo) > 0) {
                plan.segments.add(segment);
            }
        }
    }

    /** Plans a segment of these documents, if there are any, behind those planned so far: how many bytes it has. */
    private int planNewSegment(ArrayList<Document> documents) {
        if (documents.isEmpty()) {
            return 0;
        }
        page.packDocuments(documents);
        plan.segments.add(new Segment(lastNumber + 1, documents, new ByteRow(page)));
        return page.length;
    }

    private boolean findsRoom(int segmentBytes) {
        return segmentBytes + plan.list.length <= free();
    }

    /** Writes what is planned: how many bytes, or CUT. */
    private int writePlan(int segmentBytes) {
        int written = segmentBytes + plan.list.length;
        if (powerFails && written > bytesToFailure) {
            loseAllUnwritten();
            return CUT;
        }
        if (powerFails) {
            bytesToFailure -= written;
        }
        if (segmentBytes > 0) {
            lastNumber++;
        }
        Catalog old = disk;
        disk = plan;
        plan = old;
        return written;
    }

    private void loseAllUnwritten() {
        draft.clear();
        buffer.clear();
        disk.spareDoomed();
        powerFails = false;
    }

    /** Terms that are typed but belong to no document yet. */
    private static final class Draft {
        final int[] placesOfTerm = new int[TERMS];
        int length = 0;

        void append(int term) {
            placesOfTerm[term] |= 1 << length;
            length++;
        }

        void clear() {
            Arrays.fill(placesOfTerm, 0);
            length = 0;
        }
    }

    /** A document; the places of each term are a sum of 2^p, as packing and queries ask for just these. */
    private static final class Document {
        final int key;
        final int length;
        final int[] placesOfTerm;
        boolean doomed = false;
        boolean deleted = false;

        Document(int key, Draft draft) {
            this.key = key;
            this.length = draft.length;
            this.placesOfTerm = draft.placesOfTerm.clone();
        }

        /** Whether the document is deleted, or will be when the doomed ones are too. */
        boolean isGone(boolean doomedToo) {
            return deleted || doomedToo && doomed;
        }
    }

    /** Documents that were written together, never none, and their bytes. */
    private static final class Segment {
        final int number;
        final ArrayList<Document> documents;
        final ByteRow row;

        Segment(int number, ArrayList<Document> documents, ByteRow row) {
            this.number = number;
            this.documents = documents;
            this.row = row;
        }

        int lastKey() {
            return documents.isEmpty() ? -1 : documents.get(documents.size() - 1).key;
        }

        int countKept(boolean doomedToo) {
            int kept = 0;
            for (int o = 0; o < documents.size(); o++) {
                kept += documents.get(o).isGone(doomedToo) ? 0 : 1;
            }
            return kept;
        }

        int countMatches(Query query) {
            int found = 0;
            for (int o = 0; o < documents.size(); o++) {
                found += query.matches(documents.get(o)) ? 1 : 0;
            }
            return found;
        }
    }

    /** The segments in their order, and the bytes of the list that says which ones there are. */
    private static final class Catalog {
        final ArrayList<Segment> segments = new ArrayList<>();
        final ByteRow list = new ByteRow(MOST_ROOM);

        int countBytes() {
            int used = list.length;
            for (int s = 0; s < segments.size(); s++) {
                used += segments.get(s).row.length;
            }
            return used;
        }

        void writeList(boolean doomedToo) {
            list.clear();
            list.putNumber(segments.size());
            for (int s = 0; s < segments.size(); s++) {
                list.packEntry(segments.get(s), doomedToo);
            }
        }

        /** The document with this key that is in a segment and not deleted, or null. */
        Document find(int key) {
            for (int s = 0; s < segments.size(); s++) {
                ArrayList<Document> documents = segments.get(s).documents;
                for (int o = 0; o < documents.size(); o++) {
                    Document document = documents.get(o);
                    if (document.key == key && !document.deleted) {
                        return document;
                    }
                }
            }
            return null;
        }

        /** The document before which so many others match, or null. */
        Document findMatch(Query query, int before) {
            int left = before;
            for (int s = 0; s < segments.size(); s++) {
                ArrayList<Document> documents = segments.get(s).documents;
                for (int o = 0; o < documents.size(); o++) {
                    if (query.matches(documents.get(o))) {
                        if (left == 0) {
                            return documents.get(o);
                        }
                        left--;
                    }
                }
            }
            return null;
        }

        /** A new row of the documents of the segments from .. to that are not deleted. */
        ArrayList<Document> keptDocuments(int from, int to) {
            ArrayList<Document> kept = new ArrayList<>();
            for (int s = from; s <= to && s < segments.size(); s++) {
                ArrayList<Document> documents = segments.get(s).documents;
                for (int o = 0; o < documents.size(); o++) {
                    if (!documents.get(o).deleted) {
                        kept.add(documents.get(o));
                    }
                }
            }
            return kept;
        }

        boolean hasDoomed() {
            for (int s = 0; s < segments.size(); s++) {
                if (segments.get(s).countKept(true) < segments.get(s).countKept(false)) {
                    return true;
                }
            }
            return false;
        }

        void deleteDoomed() {
            for (int s = 0; s < segments.size(); s++) {
                ArrayList<Document> documents = segments.get(s).documents;
                for (int o = 0; o < documents.size(); o++) {
                    Document document = documents.get(o);
                    document.deleted = document.isGone(true);
                    document.doomed = false;
                }
            }
        }

        void spareDoomed() {
            for (int s = 0; s < segments.size(); s++) {
                ArrayList<Document> documents = segments.get(s).documents;
                for (int o = 0; o < documents.size(); o++) {
                    documents.get(o).doomed = false;
                }
            }
        }
    }

    /** A row of bytes that numbers are packed into; its length counts on when the bytes are full. */
    private static final class ByteRow {
        final int[] bytes;
        int length;

        ByteRow(int most) {
            this.bytes = new int[most];
            this.length = 0;
        }

        ByteRow(ByteRow other) {
            this.bytes = Arrays.copyOf(other.bytes, other.length);
            this.length = other.length;
        }

        void clear() {
            length = 0;
        }

        void packDocuments(ArrayList<Document> documents) {
            clear();
            putNumber(documents.size());
            int before = 0;
            for (int o = 0; o < documents.size(); o++) {
                Document document = documents.get(o);
                putNumber(document.key - before);
                putNumber(document.length);
                before = document.key;
            }
            for (int t = 0; t < TERMS; t++) {
                packTerm(t, documents);
            }
        }

        /** Packs which documents have the term and where, if there is one. */
        void packTerm(int term, ArrayList<Document> documents) {
            int having = 0;
            for (int o = 0; o < documents.size(); o++) {
                having += documents.get(o).placesOfTerm[term] != 0 ? 1 : 0;
            }
            if (having == 0) {
                return;
            }
            putNumber(term);
            putNumber(having);
            int before = 0;
            for (int o = 0; o < documents.size(); o++) {
                int places = documents.get(o).placesOfTerm[term];
                if (places != 0) {
                    putNumber(o - before);
                    packPlaces(places);
                    before = o;
                }
            }
        }

        void packPlaces(int places) {
            putNumber(Integer.bitCount(places));
            int before = 0;
            for (int p = 0; p < MOST_PLACES; p++) {
                if ((places >> p & 1) != 0) {
                    putNumber(p - before);
                    before = p;
                }
            }
        }

        /** Packs what the list says of a segment. */
        void packEntry(Segment segment, boolean doomedToo) {
            ArrayList<Document> documents = segment.documents;
            putNumber(segment.number);
            putNumber(documents.size() - segment.countKept(doomedToo));
            int before = 0;
            for (int o = 0; o < documents.size(); o++) {
                if (documents.get(o).isGone(doomedToo)) {
                    putNumber(o - before);
                    before = o;
                }
            }
        }

        /** Packs a number from 0 on; it has at most four groups of seven bits before the last one. */
        void putNumber(int number) {
            int rest = number;
            for (int group = 0; group < 4 && rest >= 128; group++) {
                putByte(128 + rest % 128);
                rest /= 128;
            }
            putByte(rest);
        }

        void putByte(int value) {
            if (length < bytes.length) {
                bytes[length] = value;
            }
            length++;
        }
    }

    /** What a document must have; a query keeps at most MOST_LEAVES leaves, and so few levels. */
    private abstract static class Query {
        final int leaves;

        Query(int leaves) {
            this.leaves = leaves;
        }

        /** Where the query holds, as the sum of 2^p. */
        abstract int holdsIn(Document document);

        boolean matches(Document document) {
            return !document.deleted && holdsIn(document) != 0;
        }
    }

    /** Holds at the places of a term. */
    private static final class Want extends Query {
        final int term;

        Want(int term) {
            super(1);
            this.term = term;
        }

        int holdsIn(Document document) {
            return document.placesOfTerm[term];
        }
    }

    /** Two queries that were combined. */
    private static final class Pair extends Query {
        final int what;
        final Query below;
        final Query top;

        Pair(int what, Query below, Query top) {
            super(below.leaves + top.leaves);
            this.what = what;
            this.below = below;
            this.top = top;
        }

        int holdsIn(Document document) {
            int a = below.holdsIn(document);
            int b = top.holdsIn(document);
            switch (what) {
                case BOTH:
                    return a != 0 && b != 0 ? a | b : 0;
                case EITHER:
                    return a | b;
                case BUT:
                    return b == 0 ? a : 0;
                case FOLLOW:
                    return b & (a << 1);
                default:
                    return b & around(a, what - FOLLOW);
            }
        }

        /** The places that are 1 .. most away from one of these. */
        private static int around(int places, int most) {
            int found = 0;
            for (int away = 1; away <= most; away++) {
                found |= places << away | places >> away;
            }
            return found;
        }
    }
}
