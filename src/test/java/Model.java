import java.util.ArrayList;
import java.util.Collection;
import java.util.List;
import java.util.NoSuchElementException;
import java.util.TreeMap;
import java.util.TreeSet;
import java.util.stream.Collectors;

/** The document told a second time, slowly and plainly: nothing is kept that can be found out anew. */
final class Model {
    /** A document and its terms in order. */
    record Doc(int key, List<Integer> terms) {
        TreeSet<Integer> placesOf(int term) {
            TreeSet<Integer> found = new TreeSet<>();
            for (int p = 0; p < terms.size(); p++) {
                if (terms.get(p) == term) {
                    found.add(p);
                }
            }
            return found;
        }
    }

    /** A segment, and the keys of its documents that are deleted. */
    record Seg(int number, List<Doc> docs, TreeSet<Integer> deleted) {
        List<Doc> kept() {
            return docs.stream().filter(d -> !deleted.contains(d.key())).collect(Collectors.toList());
        }
    }

    /** A query: a term, or two queries and what was made of them. */
    record Ask(int term, int what, Ask below, Ask top) {
        int leaves() {
            return below == null ? 1 : below.leaves() + top.leaves();
        }

        TreeSet<Integer> holds(Doc doc) {
            if (below == null) {
                return doc.placesOf(term);
            }
            TreeSet<Integer> a = below.holds(doc);
            TreeSet<Integer> b = top.holds(doc);
            TreeSet<Integer> found = new TreeSet<>();
            if (what == 0 && !a.isEmpty() && !b.isEmpty() || what == 1) {
                found.addAll(a);
                found.addAll(b);
            } else if (what == 2 && b.isEmpty()) {
                found.addAll(a);
            } else if (what >= 3) {
                for (int p : b) {
                    boolean held = what == 3
                        ? a.contains(p - 1)
                        : a.stream().anyMatch(q -> q != p && Math.abs(q - p) <= what - 3);
                    if (held) {
                        found.add(p);
                    }
                }
            }
            return found;
        }
    }

    private final int room;
    private final List<Integer> draft = new ArrayList<>();
    private final List<Doc> buffer = new ArrayList<>();
    private final TreeSet<Integer> doomed = new TreeSet<>();
    private final List<Ask> pile = new ArrayList<>();
    private List<Seg> order = new ArrayList<>();
    private boolean hasList = false;
    private int wholeSegments = 0;
    private Integer power = null;

    Model(int room) {
        this.room = room < 64 ? 64 : room > 800 ? 800 : room;
    }

    int type(int t) {
        argument(t >= 0 && t <= 15);
        state(draft.size() < 8);
        draft.add(t);
        return draft.size();
    }

    int add(int key) {
        argument(key >= 0);
        argument(buffer.stream().allMatch(d -> d.key() < key));
        argument(order.stream().allMatch(s -> s.docs().stream().allMatch(d -> d.key() < key)));
        state(!draft.isEmpty() && buffer.size() < 12);
        buffer.add(new Doc(key, List.copyOf(draft)));
        draft.clear();
        return buffer.size();
    }

    boolean delete(int key) {
        if (buffer.removeIf(d -> d.key() == key)) {
            return true;
        }
        return find(key) != null && doomed.add(key);
    }

    int commit() {
        if (buffer.isEmpty() && doomed.isEmpty()) {
            return 0;
        }
        List<Seg> next = new ArrayList<>();
        for (Seg seg : order) {
            TreeSet<Integer> gone = new TreeSet<>(seg.deleted());
            seg.docs().stream().map(Doc::key).filter(doomed::contains).forEach(gone::add);
            if (gone.size() < seg.docs().size()) {
                next.add(new Seg(seg.number(), seg.docs(), gone));
            }
        }
        Seg fresh = buffer.isEmpty() ? null : new Seg(wholeSegments + 1, List.copyOf(buffer), new TreeSet<>());
        if (fresh != null) {
            next.add(fresh);
        }
        state(next.size() <= 10);
        int written = write(fresh, next);
        if (written != PostingShelf.CUT) {
            doomed.clear();
            buffer.clear();
        }
        return written;
    }

    int merge(int i, int j) {
        argument(i >= 0 && j >= 0 && j < order.size() && i < j);
        List<Doc> kept = new ArrayList<>();
        order.subList(i, j + 1).forEach(s -> kept.addAll(s.kept()));
        Seg fresh = kept.isEmpty() ? null : new Seg(wholeSegments + 1, kept, new TreeSet<>());
        List<Seg> next = new ArrayList<>(order.subList(0, i));
        if (fresh != null) {
            next.add(fresh);
        }
        next.addAll(order.subList(j + 1, order.size()));
        return write(fresh, next);
    }

    private int write(Seg fresh, List<Seg> next) {
        int written = (fresh == null ? 0 : bytesOf(fresh).size()) + bytesOf(next).size();
        state(written <= free());
        if (power != null && written > power) {
            draft.clear();
            buffer.clear();
            doomed.clear();
            power = null;
            return PostingShelf.CUT;
        }
        power = power == null ? null : power - written;
        wholeSegments += fresh == null ? 0 : 1;
        order = next;
        hasList = true;
        return written;
    }

    boolean fail(int n) {
        power = n < 0 ? power : Integer.valueOf(n);
        return n >= 0;
    }

    int want(int t) {
        argument(t >= 0 && t <= 15);
        state(pile.size() < 8);
        pile.add(new Ask(t, 0, null, null));
        return pile.size();
    }

    int combine(int what) {
        argument(what >= 0 && what <= 10);
        element(pile.size() >= 2);
        Ask top = pile.get(pile.size() - 1);
        Ask below = pile.get(pile.size() - 2);
        Ask made = new Ask(0, what, below, top);
        state(made.leaves() <= 8);
        pile.subList(pile.size() - 2, pile.size()).clear();
        pile.add(made);
        return pile.size();
    }

    int discard() {
        element(!pile.isEmpty());
        pile.remove(pile.size() - 1);
        return pile.size();
    }

    int count() {
        return matching().size();
    }

    int match(int i) {
        TreeSet<Integer> keys = matching();
        element(i >= 0 && i < keys.size());
        return new ArrayList<>(keys).get(i);
    }

    int places(int key) {
        element(!pile.isEmpty());
        Doc doc = find(key);
        if (doc == null) {
            return PostingShelf.NONE;
        }
        return pile.get(pile.size() - 1).holds(doc).stream().mapToInt(p -> (int) Math.pow(2, p)).sum();
    }

    int documents() {
        return order.stream().mapToInt(s -> s.kept().size()).sum();
    }

    int buffered() {
        return buffer.size();
    }

    int segments() {
        return order.size();
    }

    int size(int s) {
        return s < -1 || s >= order.size() ? PostingShelf.NONE : bytes(s).size();
    }

    int at(int s, int k) {
        return k < 0 || k >= size(s) ? PostingShelf.NONE : bytes(s).get(k);
    }

    int free() {
        int left = room;
        for (int s = -1; s < order.size(); s++) {
            left -= bytes(s).size();
        }
        return left;
    }

    /** The key of document i of those that are in segments and not deleted; -1 when there is none. */
    int keyAt(int i) {
        List<Integer> keys = new ArrayList<>();
        order.forEach(s -> s.kept().forEach(d -> keys.add(d.key())));
        return i < keys.size() ? keys.get(i) : -1;
    }

    int greatestKey() {
        int greatest = -1;
        for (Seg seg : order) {
            greatest = Math.max(greatest, seg.docs().get(seg.docs().size() - 1).key());
        }
        return buffer.isEmpty() ? greatest : buffer.get(buffer.size() - 1).key();
    }

    private TreeSet<Integer> matching() {
        element(!pile.isEmpty());
        Ask ask = pile.get(pile.size() - 1);
        TreeSet<Integer> keys = new TreeSet<>();
        for (Seg seg : order) {
            seg.kept().stream().filter(d -> !ask.holds(d).isEmpty()).forEach(d -> keys.add(d.key()));
        }
        return keys;
    }

    private Doc find(int key) {
        for (Seg seg : order) {
            for (Doc doc : seg.kept()) {
                if (doc.key() == key) {
                    return doc;
                }
            }
        }
        return null;
    }

    private List<Integer> bytes(int s) {
        return s >= 0 ? bytesOf(order.get(s)) : hasList ? bytesOf(order) : List.of();
    }

    private static List<Integer> bytesOf(Seg seg) {
        List<Integer> row = new ArrayList<>();
        TreeMap<Integer, List<Integer>> ordinals = new TreeMap<>();
        written(row, seg.docs().size());
        List<Integer> keySteps = steps(seg.docs().stream().map(Doc::key).collect(Collectors.toList()));
        for (int o = 0; o < seg.docs().size(); o++) {
            Doc doc = seg.docs().get(o);
            written(row, keySteps.get(o));
            written(row, doc.terms().size());
            for (int term : new TreeSet<>(doc.terms())) {
                ordinals.computeIfAbsent(term, t -> new ArrayList<>()).add(o);
            }
        }
        for (int term : ordinals.keySet()) {
            List<Integer> having = ordinals.get(term);
            List<Integer> ordinalSteps = steps(having);
            written(row, term);
            written(row, having.size());
            for (int n = 0; n < having.size(); n++) {
                List<Integer> placeSteps = steps(seg.docs().get(having.get(n)).placesOf(term));
                written(row, ordinalSteps.get(n));
                written(row, placeSteps.size());
                placeSteps.forEach(p -> written(row, p));
            }
        }
        return row;
    }

    private static List<Integer> bytesOf(List<Seg> segs) {
        List<Integer> row = new ArrayList<>();
        written(row, segs.size());
        for (Seg seg : segs) {
            List<Integer> gone = new ArrayList<>();
            for (int o = 0; o < seg.docs().size(); o++) {
                if (seg.deleted().contains(seg.docs().get(o).key())) {
                    gone.add(o);
                }
            }
            written(row, seg.number());
            written(row, gone.size());
            steps(gone).forEach(o -> written(row, o));
        }
        return row;
    }

    private static List<Integer> steps(Collection<Integer> rising) {
        List<Integer> found = new ArrayList<>();
        Integer before = null;
        for (int x : rising) {
            found.add(before == null ? x : x - before);
            before = x;
        }
        return found;
    }

    private static void written(List<Integer> row, int number) {
        int x = number;
        while (x >= 128) {
            row.add(128 + x % 128);
            x = x / 128;
        }
        row.add(x);
    }

    private static void argument(boolean right) {
        if (!right) {
            throw new IllegalArgumentException();
        }
    }

    private static void state(boolean right) {
        if (!right) {
            throw new IllegalStateException();
        }
    }

    private static void element(boolean there) {
        if (!there) {
            throw new NoSuchElementException();
        }
    }
}
