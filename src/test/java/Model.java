import java.nio.ByteBuffer;
import java.util.ArrayList;
import java.util.HashSet;
import java.util.List;
import java.util.Map;
import java.util.Objects;
import java.util.Set;
import java.util.TreeMap;
import java.util.TreeSet;

/** A second, slow program that follows the document word by word. */
final class Model {
    static final int NONE = -1, FULL = -2, BUSY = -3, DIRTY = -4, BAD = -5;
    static final long NOTHING = 1L << 32;

    /** A node is known by its level and its rows, told as a text. */
    record Node(int entries, int rows, long hash, long lastKey, String same) { }

    record Tree(List<List<Node>> levels) {
        Set<String> all() {
            Set<String> all = new HashSet<>();
            for (List<Node> level : levels) {
                for (Node node : level) {
                    all.add(node.same());
                }
            }
            return all;
        }
    }

    static final class Database {
        final List<TreeMap<Integer, List<Integer>>> tables = new ArrayList<>();
        final Tree[] trees = new Tree[3];

        Database() {
            for (int t = 0; t < 3; t++) {
                tables.add(new TreeMap<>());
            }
        }

        Database copy() {
            Database copy = new Database();
            for (int t = 0; t < 3; t++) {
                copy.tables.get(t).putAll(tables.get(t));
            }
            return copy;
        }

        boolean same(Database d) {
            return tables.equals(d.tables);
        }

        Tree tree(int t) {
            if (trees[t] == null) {
                trees[t] = treeOf(tables.get(t));
            }
            return trees[t];
        }

        void changed() {
            trees[0] = trees[1] = trees[2] = null;
        }
    }

    record Commit(Database data, List<Integer> parents) { }

    record Conflict(int t, int key) { }

    Database work = new Database();
    final Commit[] commits = new Commit[60];
    int made = 1;
    final Set<Integer> present = new TreeSet<>();
    final Integer[] heads = new Integer[6];
    int atHand = 0;
    final List<long[]> list = new ArrayList<>();
    boolean merging = false;
    Database[] versions = null;
    List<Integer> parents = null;
    final List<Conflict> conflicts = new ArrayList<>();
    final List<Boolean> open = new ArrayList<>();
    final Set<Integer> otherCommits = new TreeSet<>();
    final Set<String> otherNodes = new HashSet<>();
    final Integer[] otherHeads = new Integer[6];

    Model() {
        commits[0] = new Commit(new Database(), List.of());
        present.add(0);
        heads[0] = 0;
        otherCommits.add(0);
        for (int t = 0; t < 3; t++) {
            otherNodes.addAll(commits[0].data().tree(t).all());
        }
    }

    static Tree treeOf(TreeMap<Integer, List<Integer>> rows) {
        List<byte[]> entries = new ArrayList<>();
        List<List<Map.Entry<Integer, List<Integer>>>> under = new ArrayList<>();
        for (Map.Entry<Integer, List<Integer>> row : rows.entrySet()) {
            List<Integer> c = row.getValue();
            entries.add(ByteBuffer.allocate(16).putInt(row.getKey()).putInt(c.get(0))
                    .putInt(c.get(1)).putInt(c.get(2)).array());
            under.add(List.of(row));
        }
        List<List<Node>> levels = new ArrayList<>();
        for (int level = 0; ; level++) {
            List<Node> nodes = new ArrayList<>();
            List<byte[]> nextEntries = new ArrayList<>();
            List<List<Map.Entry<Integer, List<Integer>>>> nextUnder = new ArrayList<>();
            int from = 0;
            do {
                int to = end(entries, from);
                List<Map.Entry<Integer, List<Integer>>> below = new ArrayList<>();
                for (int e = from; e < to; e++) {
                    below.addAll(under.get(e));
                }
                long hash = hash(level, entries.subList(from, to));
                long last = below.isEmpty() ? NOTHING : below.get(below.size() - 1).getKey();
                nodes.add(new Node(to - from, below.size(), hash, last, level + ":" + below));
                nextEntries.add(ByteBuffer.allocate(16).putInt((int) last).putLong(hash)
                        .putInt(below.size()).array());
                nextUnder.add(below);
                from = to;
            } while (from < entries.size());
            levels.add(nodes);
            if (nodes.size() == 1) {
                return new Tree(levels);
            }
            entries = nextEntries;
            under = nextUnder;
        }
    }

    static int end(List<byte[]> entries, int from) {
        List<Integer> bytes = new ArrayList<>();
        int roll = 0;
        for (int e = from; e < entries.size(); e++) {
            for (byte signed : entries.get(e)) {
                int b = signed & 255;
                roll = Integer.rotateLeft(roll, 1);
                roll ^= (b + 1) * 0x9E3779B1;
                if (bytes.size() >= 24) {
                    roll ^= Integer.rotateLeft((bytes.get(bytes.size() - 24) + 1) * 0x9E3779B1, 24);
                }
                bytes.add(b);
            }
            int has = e - from + 1;
            if (e == entries.size() - 1 || has == 10 || has >= 2 && (roll & 3) == 0) {
                return e + 1;
            }
        }
        return from;
    }

    static long hash(int level, List<byte[]> entries) {
        long h = level + 1;
        for (byte[] entry : entries) {
            for (byte b : entry) {
                h = Long.rotateLeft(h ^ (b & 255), 29) * 0xD6E8FEB86659FD93L;
            }
        }
        return h;
    }

    boolean isTable(int t) {
        return t >= 0 && t <= 2;
    }

    boolean isColumn(int c) {
        return c >= 0 && c <= 2;
    }

    boolean here(int branch) {
        return branch >= 0 && branch <= 5 && heads[branch] != null;
    }

    boolean isCommit(int c) {
        return present.contains(c);
    }

    Database database(int c) {
        return c == NONE ? work : isCommit(c) ? commits[c].data() : null;
    }

    Database headData() {
        return commits[heads[atHand]].data();
    }

    boolean clean() {
        return work.same(headData());
    }

    Set<Integer> line(int c) {
        Set<Integer> line = new TreeSet<>();
        line.add(c);
        for (int parent : commits[c].parents()) {
            line.addAll(line(parent));
        }
        return line;
    }

    void load() {
        work = headData().copy();
    }

    void endMerge() {
        merging = false;
        conflicts.clear();
        open.clear();
    }

    int put(int t, int key, int c0, int c1, int c2) {
        if (!isTable(t)) return BAD;
        if (merging) return BUSY;
        TreeMap<Integer, List<Integer>> rows = work.tables.get(t);
        if (rows.size() == 200 && !rows.containsKey(key)) return FULL;
        work.changed();
        return rows.put(key, List.of(c0, c1, c2)) == null ? 1 : 0;
    }

    int cell(int t, int key, int c, int v) {
        if (!isTable(t) || !isColumn(c)) return BAD;
        if (merging) return BUSY;
        List<Integer> row = work.tables.get(t).get(key);
        if (row == null) return NONE;
        List<Integer> other = new ArrayList<>(row);
        other.set(c, v);
        work.tables.get(t).put(key, List.copyOf(other));
        work.changed();
        return 1;
    }

    int drop(int t, int key) {
        if (!isTable(t)) return BAD;
        if (merging) return BUSY;
        work.changed();
        return work.tables.get(t).remove(key) != null ? 1 : 0;
    }

    int fill(int t, int from, int step, int n, int seed) {
        if (!isTable(t) || n < 0 || n > 100 || step == 0) return BAD;
        if (merging) return BUSY;
        TreeMap<Integer, List<Integer>> rows = new TreeMap<>(work.tables.get(t));
        int key = from;
        for (int i = 0; i < n; i++) {
            int c0 = seed * 1664525 + 1013904223;
            int c1 = c0 * 1664525 + 1013904223;
            int c2 = c1 * 1664525 + 1013904223;
            seed = c2;
            rows.put(key, List.of(c0, c1, c2));
            key += step;
        }
        if (rows.size() > 200) return FULL;
        work.tables.set(t, rows);
        work.changed();
        return rows.size();
    }

    long get(int t, int key, int c) {
        if (!isTable(t) || !isColumn(c)) return NOTHING;
        List<Integer> row = work.tables.get(t).get(key);
        return row == null ? NOTHING : row.get(c);
    }

    int size(int t) {
        return isTable(t) ? work.tables.get(t).size() : BAD;
    }

    long kth(int t, int k) {
        if (!isTable(t) || k < 0 || k >= size(t)) return NOTHING;
        return new ArrayList<>(work.tables.get(t).keySet()).get(k);
    }

    int rank(int t, int key) {
        return isTable(t) ? work.tables.get(t).headMap(key).size() : BAD;
    }

    Tree tree(int c, int t) {
        Database data = database(c);
        return data == null || !isTable(t) ? null : data.tree(t);
    }

    long root(int c, int t) {
        Tree tree = tree(c, t);
        return tree == null ? 0 : tree.levels().get(tree.levels().size() - 1).get(0).hash();
    }

    int height(int c, int t) {
        Tree tree = tree(c, t);
        return tree == null ? BAD : tree.levels().size();
    }

    int nodes(int c, int t, int level) {
        Tree tree = tree(c, t);
        return tree == null || level < 0 || level >= tree.levels().size() ? BAD : tree.levels().get(level).size();
    }

    long node(int c, int t, int level, int i, int what) {
        Tree tree = tree(c, t);
        if (tree == null || level < 0 || level >= tree.levels().size()) return 0;
        if (i < 0 || i >= tree.levels().get(level).size()) return 0;
        Node node = tree.levels().get(level).get(i);
        return what == 0 ? node.entries() : what == 1 ? node.rows() : what == 2 ? node.hash()
                : what == 3 ? node.lastKey() : 0;
    }

    int shared(int c, int d, int t) {
        Tree one = tree(c, t);
        Tree two = tree(d, t);
        if (one == null || two == null) return BAD;
        Set<String> both = one.all();
        both.retainAll(two.all());
        return both.size();
    }

    int stored() {
        Set<String> all = new HashSet<>();
        for (int t = 0; t < 3; t++) {
            all.addAll(work.tree(t).all());
            for (int c : present) {
                all.addAll(commits[c].data().tree(t).all());
            }
        }
        return all.size();
    }

    int open(int branch) {
        if (branch < 0 || branch > 5) return BAD;
        if (merging) return BUSY;
        if (here(branch)) return NONE;
        heads[branch] = heads[atHand];
        return heads[branch];
    }

    int go(int branch) {
        if (!here(branch)) return BAD;
        if (merging) return BUSY;
        if (!clean()) return DIRTY;
        atHand = branch;
        load();
        return heads[branch];
    }

    int close(int branch) {
        if (!here(branch) || branch == atHand) return BAD;
        int head = heads[branch];
        heads[branch] = null;
        return head;
    }

    int head(int branch) {
        return here(branch) ? heads[branch] : BAD;
    }

    int commit() {
        if (conflicts(0) > 0) return BUSY;
        if (clean() && !merging) return NONE;
        if (made == 60) return FULL;
        commits[made] = new Commit(work.copy(), merging ? parents : List.of(heads[atHand]));
        present.add(made);
        heads[atHand] = made;
        endMerge();
        return made++;
    }

    int parent(int c, int i) {
        if (!isCommit(c)) return BAD;
        List<Integer> all = commits[c].parents();
        return i >= 0 && i < all.size() ? all.get(i) : NONE;
    }

    int ancestors(int c) {
        return isCommit(c) ? line(c).size() : BAD;
    }

    int base(int c, int d) {
        if (!isCommit(c) || !isCommit(d)) return BAD;
        Set<Integer> both = line(c);
        both.retainAll(line(d));
        int best = NONE;
        for (int one : both) {
            boolean ofAnother = false;
            for (int two : both) {
                ofAnother |= two != one && line(two).contains(one);
            }
            best = ofAnother ? best : Math.max(best, one);
        }
        return best;
    }

    int reset() {
        boolean changes = merging || !clean();
        load();
        endMerge();
        return changes ? 1 : 0;
    }

    int sweep() {
        if (merging) return BUSY;
        Set<Integer> stay = new TreeSet<>();
        for (int branch = 0; branch < 6; branch++) {
            if (heads[branch] != null) {
                stay.addAll(line(heads[branch]));
            }
        }
        int before = present.size();
        present.retainAll(stay);
        return before - present.size();
    }

    int diff(int c, int d, int t) {
        if (database(c) == null || database(d) == null || !isTable(t)) return BAD;
        list.clear();
        TreeMap<Integer, List<Integer>> from = database(c).tables.get(t);
        TreeMap<Integer, List<Integer>> to = database(d).tables.get(t);
        Set<Integer> keys = new TreeSet<>(from.keySet());
        keys.addAll(to.keySet());
        for (int key : keys) {
            List<Integer> was = from.get(key);
            List<Integer> is = to.get(key);
            if (was == null) {
                list.add(new long[] {key, 1});
            } else if (is == null) {
                list.add(new long[] {key, 2});
            } else if (!was.equals(is)) {
                int kind = 8;
                for (int i = 0; i < 3; i++) {
                    kind += was.get(i).equals(is.get(i)) ? 0 : 1 << i;
                }
                list.add(new long[] {key, kind});
            }
        }
        return list.size();
    }

    long diffKey(int i) {
        return i >= 0 && i < list.size() ? list.get(i)[0] : NOTHING;
    }

    int diffKind(int i) {
        return i >= 0 && i < list.size() ? (int) list.get(i)[1] : 0;
    }

    int merge(int branch) {
        if (!here(branch)) return BAD;
        if (merging) return BUSY;
        if (!clean()) return DIRTY;
        int ours = heads[atHand];
        int theirs = heads[branch];
        if (line(ours).contains(theirs)) return 0;
        if (line(theirs).contains(ours)) {
            heads[atHand] = theirs;
            load();
            return 1;
        }
        return three(base(ours, theirs), theirs, List.of(ours, theirs));
    }

    int pick(int c) {
        if (!isCommit(c) || commits[c].parents().size() != 1) return BAD;
        if (merging) return BUSY;
        if (!clean()) return DIRTY;
        return three(commits[c].parents().get(0), c, List.of(heads[atHand]));
    }

    int undo(int c) {
        if (!isCommit(c) || commits[c].parents().size() != 1) return BAD;
        if (merging) return BUSY;
        if (!clean()) return DIRTY;
        return three(c, commits[c].parents().get(0), List.of(heads[atHand]));
    }

    int three(int oldCommit, int theirCommit, List<Integer> parentsThen) {
        Database old = commits[oldCommit].data();
        Database ours = headData();
        Database theirs = commits[theirCommit].data();
        Database result = new Database();
        List<Conflict> found = new ArrayList<>();
        for (int t = 0; t < 3; t++) {
            Set<Integer> keys = new TreeSet<>(old.tables.get(t).keySet());
            keys.addAll(ours.tables.get(t).keySet());
            keys.addAll(theirs.tables.get(t).keySet());
            for (int key : keys) {
                List<Integer> o = old.tables.get(t).get(key);
                List<Integer> u = ours.tables.get(t).get(key);
                List<Integer> h = theirs.tables.get(t).get(key);
                List<Integer> row = u;
                if (Objects.equals(u, h)) {
                    row = u;
                } else if (Objects.equals(o, u)) {
                    row = h;
                } else if (Objects.equals(o, h)) {
                    row = u;
                } else {
                    List<Integer> mix = o == null || u == null || h == null ? null : mix(o, u, h);
                    if (mix != null) {
                        row = mix;
                    } else {
                        found.add(new Conflict(t, key));
                    }
                }
                if (row != null) {
                    result.tables.get(t).put(key, row);
                }
            }
            if (result.tables.get(t).size() > 200) return FULL;
        }
        work = result;
        merging = true;
        versions = new Database[] {old, ours, theirs};
        parents = parentsThen;
        conflicts.clear();
        open.clear();
        for (Conflict conflict : found) {
            conflicts.add(conflict);
            open.add(true);
        }
        return 2 + found.size();
    }

    static List<Integer> mix(List<Integer> o, List<Integer> u, List<Integer> h) {
        List<Integer> row = new ArrayList<>();
        for (int c = 0; c < 3; c++) {
            if (u.get(c).equals(h.get(c))) {
                row.add(u.get(c));
            } else if (o.get(c).equals(u.get(c))) {
                row.add(h.get(c));
            } else if (o.get(c).equals(h.get(c))) {
                row.add(u.get(c));
            } else {
                return null;
            }
        }
        return List.copyOf(row);
    }

    boolean merging() {
        return merging;
    }

    int conflicts(int which) {
        if (which == 1) return conflicts.size();
        if (which != 0) return BAD;
        int count = 0;
        for (boolean one : open) {
            count += one ? 1 : 0;
        }
        return count;
    }

    long conflict(int i, int what) {
        if (i < 0 || i >= conflicts.size() || what < 0 || what > 2) return NOTHING;
        return what == 0 ? conflicts.get(i).t() : what == 1 ? conflicts.get(i).key() : open.get(i) ? 1 : 0;
    }

    long version(int i, int which, int c) {
        if (i < 0 || i >= conflicts.size() || which < 0 || which > 2 || !isColumn(c)) return NOTHING;
        List<Integer> row = versions[which].tables.get(conflicts.get(i).t()).get(conflicts.get(i).key());
        return row == null ? NOTHING : row.get(c);
    }

    int settle(int i, int which) {
        if (i < 0 || i >= conflicts.size() || which < 0 || which > 2) return BAD;
        int key = conflicts.get(i).key();
        TreeMap<Integer, List<Integer>> rows = work.tables.get(conflicts.get(i).t());
        List<Integer> row = versions[which].tables.get(conflicts.get(i).t()).get(key);
        if (row == null) {
            rows.remove(key);
        } else if (rows.size() == 200 && !rows.containsKey(key)) {
            return FULL;
        } else {
            rows.put(key, row);
        }
        work.changed();
        return open.set(i, false) ? 1 : 0;
    }

    int send(int branch) {
        if (!here(branch)) return BAD;
        Set<Integer> line = line(heads[branch]);
        if (otherHeads[branch] != null && !line.contains(otherHeads[branch])) return DIRTY;
        int before = otherNodes.size();
        for (int c : line) {
            for (int t = 0; t < 3; t++) {
                otherNodes.addAll(commits[c].data().tree(t).all());
            }
        }
        otherCommits.addAll(line);
        otherHeads[branch] = heads[branch];
        return otherNodes.size() - before;
    }

    int fetch(int branch) {
        if (branch < 0 || branch > 5 || otherHeads[branch] == null) return BAD;
        int target = otherHeads[branch];
        if (heads[branch] != null && !line(target).contains(heads[branch])) return DIRTY;
        if (branch == atHand && !clean()) return DIRTY;
        if (branch == atHand && merging) return BUSY;
        present.addAll(line(target));
        heads[branch] = target;
        if (branch == atHand) {
            load();
        }
        return target;
    }

    int there(int branch) {
        return branch >= 0 && branch <= 5 && otherHeads[branch] != null ? otherHeads[branch] : BAD;
    }

    int kept(int which) {
        return which == 0 ? otherNodes.size() : which == 1 ? otherCommits.size() : BAD;
    }
}
