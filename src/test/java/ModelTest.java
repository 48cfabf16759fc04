import java.lang.reflect.Method;
import java.nio.ByteBuffer;
import java.util.ArrayList;
import java.util.Arrays;
import java.util.HashSet;
import java.util.List;
import java.util.Map;
import java.util.Objects;
import java.util.Random;
import java.util.Set;
import java.util.TreeMap;
import java.util.TreeSet;

/**
 * Long runs of calls against a second, slow program that follows the document word by word. The seeds are
 * fixed, so every run of this test makes the same calls.
 */
public final class ModelTest {
    private static final int CALLS = 512;
    private static final int RUNS_PER_STYLE = 120;
    private static final String[] NAMES = {
        "put", "cell", "drop", "fill", "get", "size", "kth", "rank", "root", "height", "nodes", "node",
        "shared", "stored", "open", "go", "close", "head", "commit", "parent", "ancestors", "base", "reset",
        "sweep", "diff", "diffKey", "diffKind", "merge", "pick", "undo", "merging", "conflicts", "conflict",
        "version", "settle", "send", "fetch", "there", "kept"};

    /** How often each call is made, in the order of NAMES. */
    private static final int[] WEIGHTS = {
        40, 25, 18, 6, 4, 2, 3, 3, 6, 3, 4, 6,
        5, 4, 8, 22, 3, 2, 34, 3, 2, 4, 3,
        2, 6, 4, 4, 20, 9, 9, 2, 3, 5,
        6, 16, 7, 7, 2, 4};

    private static int wrong = 0;
    private static final Map<String, Integer> seenAnswers = new TreeMap<>();

    public static void main(String[] args) {
        for (int style = 0; style < Style.values().length; style++) {
            for (int seed = 0; seed < RUNS_PER_STYLE && wrong < 20; seed++) {
                run(Style.values()[style], seed);
            }
        }
        askForSeen();
        System.out.println(wrong == 0 ? "ModelTest: all answers are as due" : "ModelTest: " + wrong + " wrong");
        System.exit(wrong == 0 ? 0 : 1);
    }

    /**
     * How keys and columns are chosen: few of them bring conflicts, many bring high trees and full tables.
     * HASTY commits so often that the numbers run out.
     */
    private enum Style { TINY, HASTY, MIDDLE, LARGE }

    private static void run(Style style, int seed) {
        Random random = new Random(1000L * style.ordinal() + seed);
        TreeVersions x = new TreeVersions();
        Model m = new Model();
        List<String> told = new ArrayList<>();
        for (int call = 0; call < CALLS; call++) {
            int op = chooseOp(random, style);
            int[] a = arguments(NAMES[op], random, style, m);
            long want = answer(m, NAMES[op], a);
            long got = answer(x, NAMES[op], a);
            told.add(NAMES[op] + Arrays.toString(a) + " = " + want);
            note(NAMES[op], want);
            if (got != want) {
                wrong++;
                System.out.println(style + " seed " + seed + " call " + call + ": " + NAMES[op]
                        + Arrays.toString(a) + " answered " + got + ", due is " + want);
                for (String line : told.subList(Math.max(0, told.size() - 12), told.size())) {
                    System.out.println("    " + line);
                }
                return;
            }
        }
        compareAll(x, m, style, seed);
    }

    /** At the end of a run every table of every commit and of the work is looked at whole. */
    private static void compareAll(TreeVersions x, Model m, Style style, int seed) {
        for (int c = -1; c < 60; c++) {
            for (int t = 0; t < 3; t++) {
                if (x.root(c, t) != m.root(c, t) || x.height(c, t) != m.height(c, t)) {
                    wrong++;
                    System.out.println(style + " seed " + seed + ": tree of table " + t + " in " + c);
                }
            }
            if (x.ancestors(c) != m.ancestors(c)) {
                wrong++;
                System.out.println(style + " seed " + seed + ": ancestors of " + c);
            }
        }
        if (x.stored() != m.stored() || x.kept(0) != m.kept(0) || x.kept(1) != m.kept(1)) {
            wrong++;
            System.out.println(style + " seed " + seed + ": counts of nodes and commits");
        }
    }

    private static void note(String name, long answer) {
        String kind = answer < 0 && answer >= -5 ? Long.toString(answer) : answer == 0 ? "0" : "more";
        seenAnswers.merge(name + " " + kind, 1, Integer::sum);
    }

    /** Runs that never come to an answer would say nothing about it. */
    private static void askForSeen() {
        String[] due = {"put -5", "put -3", "put -2", "put 0", "put more", "cell -5", "cell -3", "cell -1",
            "drop -5", "drop -3", "drop 0", "drop more", "fill -5", "fill -3", "fill -2", "fill more",
            "shared -5", "shared 0", "shared more", "open -5", "open -3", "open -1", "go -5", "go -3", "go -4",
            "close -5", "close more", "commit -3", "commit -1", "commit -2", "commit more", "sweep -3",
            "sweep 0", "sweep more", "reset 0", "reset more", "merge -5", "merge -3", "merge -4", "merge 0",
            "merge more", "merge -2", "pick -5", "pick -3", "pick -4", "pick more", "undo -5", "undo more",
            "settle -5", "settle 0", "settle more", "send -5", "send -4", "send more", "fetch -5", "fetch -4",
            "fetch -3", "fetch more"};
        for (String answer : due) {
            if (!seenAnswers.containsKey(answer)) {
                wrong++;
                System.out.println("no run came to: " + answer);
            }
        }
    }

    private static int chooseOp(Random random, Style style) {
        if (style == Style.HASTY && random.nextInt(2) == 0) {
            String[] hasty = {"put", "commit", "commit", "reset"};
            return Arrays.asList(NAMES).indexOf(hasty[random.nextInt(hasty.length)]);
        }
        int sum = 0;
        for (int weight : WEIGHTS) {
            sum += weight;
        }
        int left = random.nextInt(sum);
        for (int op = 0; op < WEIGHTS.length; op++) {
            left -= WEIGHTS[op];
            if (left < 0) {
                return op;
            }
        }
        return 0;
    }

    private static int[] arguments(String name, Random r, Style style, Model m) {
        int t = rarely(r) ? odd(r) : r.nextInt(style == Style.LARGE ? 2 : 3);
        int c = rarely(r) ? odd(r) : r.nextInt(3);
        int branch = rarely(r) ? odd(r) : r.nextInt(3);
        int commit = rarely(r) ? odd(r) : r.nextInt(m.made + 1) - (r.nextInt(4) == 0 ? 1 : 0);
        int commit2 = rarely(r) ? odd(r) : r.nextInt(m.made + 1) - (r.nextInt(4) == 0 ? 1 : 0);
        int key = key(r, style);
        int small = rarely(r) ? odd(r) : r.nextInt(6);
        switch (name) {
            case "put": return new int[] {t, key, value(r), value(r), value(r)};
            case "cell": return new int[] {t, key, c, value(r)};
            case "drop": case "rank": return new int[] {t, key};
            case "fill": return fillArguments(r, style, t);
            case "get": return new int[] {t, key, c};
            case "size": return new int[] {t};
            case "kth": return new int[] {t, small};
            case "root": case "height": return new int[] {commit, t};
            case "nodes": return new int[] {commit, t, small - 1};
            case "node": return new int[] {commit, t, r.nextInt(4), r.nextInt(6), r.nextInt(6) - 1};
            case "shared": case "diff": return new int[] {commit, commit2, t};
            case "open": case "go": case "close": case "head": case "merge": return new int[] {branch};
            case "send": case "fetch": case "there": return new int[] {branch};
            case "parent": return new int[] {commit, r.nextInt(4) - 1};
            case "ancestors": case "pick": case "undo": return new int[] {commit};
            case "base": return new int[] {commit, commit2};
            case "diffKey": case "diffKind": return new int[] {small};
            case "conflicts": return new int[] {r.nextInt(4) - 1};
            case "conflict": return new int[] {small, r.nextInt(5) - 1};
            case "version": return new int[] {small, r.nextInt(5) - 1, c};
            case "settle": return new int[] {r.nextInt(3), r.nextInt(8) == 0 ? odd(r) : r.nextInt(3)};
            case "kept": return new int[] {r.nextInt(3) - (r.nextInt(4) == 0 ? 1 : 0)};
            default: return new int[0];
        }
    }

    private static boolean rarely(Random r) {
        return r.nextInt(25) == 0;
    }

    private static int odd(Random r) {
        int[] values = {-1, -2, 3, 6, 59, 60, 63, 64, 65, 200, Integer.MAX_VALUE, Integer.MIN_VALUE};
        return values[r.nextInt(values.length)];
    }

    private static int key(Random r, Style style) {
        if (r.nextInt(20) == 0) {
            int[] ends = {Integer.MIN_VALUE, Integer.MAX_VALUE, -1, 0};
            return ends[r.nextInt(ends.length)];
        }
        switch (style) {
            case TINY: case HASTY: return r.nextInt(5);
            case MIDDLE: return 3 * r.nextInt(40) - 20;
            default: return r.nextInt(230);
        }
    }

    private static int value(Random r) {
        return r.nextInt(6) == 0 ? r.nextInt() : r.nextInt(3);
    }

    private static int[] fillArguments(Random r, Style style, int t) {
        boolean few = style == Style.TINY || style == Style.HASTY;
        int n = rarely(r) ? odd(r) : r.nextInt(few ? 6 : style == Style.MIDDLE ? 40 : 101);
        int step = r.nextInt(12) == 0 ? 1 << 24 + r.nextInt(8) : r.nextInt(20) == 0 ? odd(r) : r.nextInt(4);
        return new int[] {t, r.nextInt(few ? 4 : 150), step, n, r.nextInt(3)};
    }

    /** The document, word by word. */
    private static final class Model {
        static final int NONE = -1, FULL = -2, BUSY = -3, DIRTY = -4, BAD = -5;
        static final long NOTHING = 1L << 32;

        /** A node is known by its level and its rows, told as a text. */
        record Node(int entries, int rows, long hash, long lastKey, String same) { }

        record Tree(List<List<Node>> levels) {
            Set<String> all() {
                Set<String> all = new HashSet<>();
                for (List<Node> level : levels) {
                    for (Node node : level) {
                        all.add(node.same());
                    }
                }
                return all;
            }
        }

        static final class Database {
            final List<TreeMap<Integer, List<Integer>>> tables = new ArrayList<>();
            final Tree[] trees = new Tree[3];

            Database() {
                for (int t = 0; t < 3; t++) {
                    tables.add(new TreeMap<>());
                }
            }

            Database copy() {
                Database copy = new Database();
                for (int t = 0; t < 3; t++) {
                    copy.tables.get(t).putAll(tables.get(t));
                }
                return copy;
            }

            boolean same(Database d) {
                return tables.equals(d.tables);
            }

            Tree tree(int t) {
                if (trees[t] == null) {
                    trees[t] = treeOf(tables.get(t));
                }
                return trees[t];
            }

            void changed() {
                trees[0] = trees[1] = trees[2] = null;
            }
        }

        record Commit(Database data, List<Integer> parents) { }

        record Conflict(int t, int key) { }

        Database work = new Database();
        final Commit[] commits = new Commit[60];
        int made = 1;
        final Set<Integer> present = new TreeSet<>();
        final Integer[] heads = new Integer[6];
        int atHand = 0;
        final List<long[]> list = new ArrayList<>();
        boolean merging = false;
        Database[] versions = null;
        List<Integer> parents = null;
        final List<Conflict> conflicts = new ArrayList<>();
        final List<Boolean> open = new ArrayList<>();
        final Set<Integer> otherCommits = new TreeSet<>();
        final Set<String> otherNodes = new HashSet<>();
        final Integer[] otherHeads = new Integer[6];

        Model() {
            commits[0] = new Commit(new Database(), List.of());
            present.add(0);
            heads[0] = 0;
            otherCommits.add(0);
            for (int t = 0; t < 3; t++) {
                otherNodes.addAll(commits[0].data().tree(t).all());
            }
        }

        static Tree treeOf(TreeMap<Integer, List<Integer>> rows) {
            List<byte[]> entries = new ArrayList<>();
            List<List<Map.Entry<Integer, List<Integer>>>> under = new ArrayList<>();
            for (Map.Entry<Integer, List<Integer>> row : rows.entrySet()) {
                List<Integer> c = row.getValue();
                entries.add(ByteBuffer.allocate(16).putInt(row.getKey()).putInt(c.get(0))
                        .putInt(c.get(1)).putInt(c.get(2)).array());
                under.add(List.of(row));
            }
            List<List<Node>> levels = new ArrayList<>();
            for (int level = 0; ; level++) {
                List<Node> nodes = new ArrayList<>();
                List<byte[]> nextEntries = new ArrayList<>();
                List<List<Map.Entry<Integer, List<Integer>>>> nextUnder = new ArrayList<>();
                int from = 0;
                do {
                    int to = end(entries, from);
                    List<Map.Entry<Integer, List<Integer>>> below = new ArrayList<>();
                    for (int e = from; e < to; e++) {
                        below.addAll(under.get(e));
                    }
                    long hash = hash(level, entries.subList(from, to));
                    long last = below.isEmpty() ? NOTHING : below.get(below.size() - 1).getKey();
                    nodes.add(new Node(to - from, below.size(), hash, last, level + ":" + below));
                    nextEntries.add(ByteBuffer.allocate(16).putInt((int) last).putLong(hash)
                            .putInt(below.size()).array());
                    nextUnder.add(below);
                    from = to;
                } while (from < entries.size());
                levels.add(nodes);
                if (nodes.size() == 1) {
                    return new Tree(levels);
                }
                entries = nextEntries;
                under = nextUnder;
            }
        }

        static int end(List<byte[]> entries, int from) {
            List<Integer> bytes = new ArrayList<>();
            int roll = 0;
            for (int e = from; e < entries.size(); e++) {
                for (byte signed : entries.get(e)) {
                    int b = signed & 255;
                    roll = Integer.rotateLeft(roll, 1);
                    roll ^= (b + 1) * 0x9E3779B1;
                    if (bytes.size() >= 24) {
                        roll ^= Integer.rotateLeft((bytes.get(bytes.size() - 24) + 1) * 0x9E3779B1, 24);
                    }
                    bytes.add(b);
                }
                int has = e - from + 1;
                if (e == entries.size() - 1 || has == 10 || has >= 2 && (roll & 3) == 0) {
                    return e + 1;
                }
            }
            return from;
        }

        static long hash(int level, List<byte[]> entries) {
            long h = level + 1;
            for (byte[] entry : entries) {
                for (byte b : entry) {
                    h = Long.rotateLeft(h ^ (b & 255), 29) * 0xD6E8FEB86659FD93L;
                }
            }
            return h;
        }

        boolean isTable(int t) {
            return t >= 0 && t <= 2;
        }

        boolean isColumn(int c) {
            return c >= 0 && c <= 2;
        }

        boolean here(int branch) {
            return branch >= 0 && branch <= 5 && heads[branch] != null;
        }

        boolean isCommit(int c) {
            return present.contains(c);
        }

        Database database(int c) {
            return c == NONE ? work : isCommit(c) ? commits[c].data() : null;
        }

        Database headData() {
            return commits[heads[atHand]].data();
        }

        boolean clean() {
            return work.same(headData());
        }

        Set<Integer> line(int c) {
            Set<Integer> line = new TreeSet<>();
            line.add(c);
            for (int parent : commits[c].parents()) {
                line.addAll(line(parent));
            }
            return line;
        }

        void load() {
            work = headData().copy();
        }

        void endMerge() {
            merging = false;
            conflicts.clear();
            open.clear();
        }

        int put(int t, int key, int c0, int c1, int c2) {
            if (!isTable(t)) return BAD;
            if (merging) return BUSY;
            TreeMap<Integer, List<Integer>> rows = work.tables.get(t);
            if (rows.size() == 200 && !rows.containsKey(key)) return FULL;
            work.changed();
            return rows.put(key, List.of(c0, c1, c2)) == null ? 1 : 0;
        }

        int cell(int t, int key, int c, int v) {
            if (!isTable(t) || !isColumn(c)) return BAD;
            if (merging) return BUSY;
            List<Integer> row = work.tables.get(t).get(key);
            if (row == null) return NONE;
            List<Integer> other = new ArrayList<>(row);
            other.set(c, v);
            work.tables.get(t).put(key, List.copyOf(other));
            work.changed();
            return 1;
        }

        int drop(int t, int key) {
            if (!isTable(t)) return BAD;
            if (merging) return BUSY;
            work.changed();
            return work.tables.get(t).remove(key) != null ? 1 : 0;
        }

        int fill(int t, int from, int step, int n, int seed) {
            if (!isTable(t) || n < 0 || n > 100 || step == 0) return BAD;
            if (merging) return BUSY;
            TreeMap<Integer, List<Integer>> rows = new TreeMap<>(work.tables.get(t));
            int key = from;
            for (int i = 0; i < n; i++) {
                int c0 = seed * 1664525 + 1013904223;
                int c1 = c0 * 1664525 + 1013904223;
                int c2 = c1 * 1664525 + 1013904223;
                seed = c2;
                rows.put(key, List.of(c0, c1, c2));
                key += step;
            }
            if (rows.size() > 200) return FULL;
            work.tables.set(t, rows);
            work.changed();
            return rows.size();
        }

        long get(int t, int key, int c) {
            if (!isTable(t) || !isColumn(c)) return NOTHING;
            List<Integer> row = work.tables.get(t).get(key);
            return row == null ? NOTHING : row.get(c);
        }

        int size(int t) {
            return isTable(t) ? work.tables.get(t).size() : BAD;
        }

        long kth(int t, int k) {
            if (!isTable(t) || k < 0 || k >= size(t)) return NOTHING;
            return new ArrayList<>(work.tables.get(t).keySet()).get(k);
        }

        int rank(int t, int key) {
            return isTable(t) ? work.tables.get(t).headMap(key).size() : BAD;
        }

        Tree tree(int c, int t) {
            Database data = database(c);
            return data == null || !isTable(t) ? null : data.tree(t);
        }

        long root(int c, int t) {
            Tree tree = tree(c, t);
            return tree == null ? 0 : tree.levels().get(tree.levels().size() - 1).get(0).hash();
        }

        int height(int c, int t) {
            Tree tree = tree(c, t);
            return tree == null ? BAD : tree.levels().size();
        }

        int nodes(int c, int t, int level) {
            Tree tree = tree(c, t);
            return tree == null || level < 0 || level >= tree.levels().size() ? BAD : tree.levels().get(level).size();
        }

        long node(int c, int t, int level, int i, int what) {
            Tree tree = tree(c, t);
            if (tree == null || level < 0 || level >= tree.levels().size()) return 0;
            if (i < 0 || i >= tree.levels().get(level).size()) return 0;
            Node node = tree.levels().get(level).get(i);
            return what == 0 ? node.entries() : what == 1 ? node.rows() : what == 2 ? node.hash()
                    : what == 3 ? node.lastKey() : 0;
        }

        int shared(int c, int d, int t) {
            Tree one = tree(c, t);
            Tree two = tree(d, t);
            if (one == null || two == null) return BAD;
            Set<String> both = one.all();
            both.retainAll(two.all());
            return both.size();
        }

        int stored() {
            Set<String> all = new HashSet<>();
            for (int t = 0; t < 3; t++) {
                all.addAll(work.tree(t).all());
                for (int c : present) {
                    all.addAll(commits[c].data().tree(t).all());
                }
            }
            return all.size();
        }

        int open(int branch) {
            if (branch < 0 || branch > 5) return BAD;
            if (merging) return BUSY;
            if (here(branch)) return NONE;
            heads[branch] = heads[atHand];
            return heads[branch];
        }

        int go(int branch) {
            if (!here(branch)) return BAD;
            if (merging) return BUSY;
            if (!clean()) return DIRTY;
            atHand = branch;
            load();
            return heads[branch];
        }

        int close(int branch) {
            if (!here(branch) || branch == atHand) return BAD;
            int head = heads[branch];
            heads[branch] = null;
            return head;
        }

        int head(int branch) {
            return here(branch) ? heads[branch] : BAD;
        }

        int commit() {
            if (conflicts(0) > 0) return BUSY;
            if (clean() && !merging) return NONE;
            if (made == 60) return FULL;
            commits[made] = new Commit(work.copy(), merging ? parents : List.of(heads[atHand]));
            present.add(made);
            heads[atHand] = made;
            endMerge();
            return made++;
        }

        int parent(int c, int i) {
            if (!isCommit(c)) return BAD;
            List<Integer> all = commits[c].parents();
            return i >= 0 && i < all.size() ? all.get(i) : NONE;
        }

        int ancestors(int c) {
            return isCommit(c) ? line(c).size() : BAD;
        }

        int base(int c, int d) {
            if (!isCommit(c) || !isCommit(d)) return BAD;
            Set<Integer> both = line(c);
            both.retainAll(line(d));
            int best = NONE;
            for (int one : both) {
                boolean ofAnother = false;
                for (int two : both) {
                    ofAnother |= two != one && line(two).contains(one);
                }
                best = ofAnother ? best : Math.max(best, one);
            }
            return best;
        }

        int reset() {
            boolean changes = merging || !clean();
            load();
            endMerge();
            return changes ? 1 : 0;
        }

        int sweep() {
            if (merging) return BUSY;
            Set<Integer> stay = new TreeSet<>();
            for (int branch = 0; branch < 6; branch++) {
                if (heads[branch] != null) {
                    stay.addAll(line(heads[branch]));
                }
            }
            int before = present.size();
            present.retainAll(stay);
            return before - present.size();
        }

        int diff(int c, int d, int t) {
            if (database(c) == null || database(d) == null || !isTable(t)) return BAD;
            list.clear();
            TreeMap<Integer, List<Integer>> from = database(c).tables.get(t);
            TreeMap<Integer, List<Integer>> to = database(d).tables.get(t);
            Set<Integer> keys = new TreeSet<>(from.keySet());
            keys.addAll(to.keySet());
            for (int key : keys) {
                List<Integer> was = from.get(key);
                List<Integer> is = to.get(key);
                if (was == null) {
                    list.add(new long[] {key, 1});
                } else if (is == null) {
                    list.add(new long[] {key, 2});
                } else if (!was.equals(is)) {
                    int kind = 8;
                    for (int i = 0; i < 3; i++) {
                        kind += was.get(i).equals(is.get(i)) ? 0 : 1 << i;
                    }
                    list.add(new long[] {key, kind});
                }
            }
            return list.size();
        }

        long diffKey(int i) {
            return i >= 0 && i < list.size() ? list.get(i)[0] : NOTHING;
        }

        int diffKind(int i) {
            return i >= 0 && i < list.size() ? (int) list.get(i)[1] : 0;
        }

        int merge(int branch) {
            if (!here(branch)) return BAD;
            if (merging) return BUSY;
            if (!clean()) return DIRTY;
            int ours = heads[atHand];
            int theirs = heads[branch];
            if (line(ours).contains(theirs)) return 0;
            if (line(theirs).contains(ours)) {
                heads[atHand] = theirs;
                load();
                return 1;
            }
            return three(base(ours, theirs), theirs, List.of(ours, theirs));
        }

        int pick(int c) {
            if (!isCommit(c) || commits[c].parents().size() != 1) return BAD;
            if (merging) return BUSY;
            if (!clean()) return DIRTY;
            return three(commits[c].parents().get(0), c, List.of(heads[atHand]));
        }

        int undo(int c) {
            if (!isCommit(c) || commits[c].parents().size() != 1) return BAD;
            if (merging) return BUSY;
            if (!clean()) return DIRTY;
            return three(c, commits[c].parents().get(0), List.of(heads[atHand]));
        }

        int three(int oldCommit, int theirCommit, List<Integer> parentsThen) {
            Database old = commits[oldCommit].data();
            Database ours = headData();
            Database theirs = commits[theirCommit].data();
            Database result = new Database();
            List<Conflict> found = new ArrayList<>();
            for (int t = 0; t < 3; t++) {
                Set<Integer> keys = new TreeSet<>(old.tables.get(t).keySet());
                keys.addAll(ours.tables.get(t).keySet());
                keys.addAll(theirs.tables.get(t).keySet());
                for (int key : keys) {
                    List<Integer> o = old.tables.get(t).get(key);
                    List<Integer> u = ours.tables.get(t).get(key);
                    List<Integer> h = theirs.tables.get(t).get(key);
                    List<Integer> row = u;
                    if (Objects.equals(u, h)) {
                        row = u;
                    } else if (Objects.equals(o, u)) {
                        row = h;
                    } else if (Objects.equals(o, h)) {
                        row = u;
                    } else {
                        List<Integer> mix = o == null || u == null || h == null ? null : mix(o, u, h);
                        if (mix != null) {
                            row = mix;
                        } else {
                            found.add(new Conflict(t, key));
                        }
                    }
                    if (row != null) {
                        result.tables.get(t).put(key, row);
                    }
                }
                if (result.tables.get(t).size() > 200) return FULL;
            }
            work = result;
            merging = true;
            versions = new Database[] {old, ours, theirs};
            parents = parentsThen;
            conflicts.clear();
            open.clear();
            for (Conflict conflict : found) {
                conflicts.add(conflict);
                open.add(true);
            }
            return 2 + found.size();
        }

        static List<Integer> mix(List<Integer> o, List<Integer> u, List<Integer> h) {
            List<Integer> row = new ArrayList<>();
            for (int c = 0; c < 3; c++) {
                if (u.get(c).equals(h.get(c))) {
                    row.add(u.get(c));
                } else if (o.get(c).equals(u.get(c))) {
                    row.add(h.get(c));
                } else if (o.get(c).equals(h.get(c))) {
                    row.add(u.get(c));
                } else {
                    return null;
                }
            }
            return List.copyOf(row);
        }

        boolean merging() {
            return merging;
        }

        int conflicts(int which) {
            if (which == 1) return conflicts.size();
            if (which != 0) return BAD;
            int count = 0;
            for (boolean one : open) {
                count += one ? 1 : 0;
            }
            return count;
        }

        long conflict(int i, int what) {
            if (i < 0 || i >= conflicts.size() || what < 0 || what > 2) return NOTHING;
            return what == 0 ? conflicts.get(i).t() : what == 1 ? conflicts.get(i).key() : open.get(i) ? 1 : 0;
        }

        long version(int i, int which, int c) {
            if (i < 0 || i >= conflicts.size() || which < 0 || which > 2 || !isColumn(c)) return NOTHING;
            List<Integer> row = versions[which].tables.get(conflicts.get(i).t()).get(conflicts.get(i).key());
            return row == null ? NOTHING : row.get(c);
        }

        int settle(int i, int which) {
            if (i < 0 || i >= conflicts.size() || which < 0 || which > 2) return BAD;
            int key = conflicts.get(i).key();
            TreeMap<Integer, List<Integer>> rows = work.tables.get(conflicts.get(i).t());
            List<Integer> row = versions[which].tables.get(conflicts.get(i).t()).get(key);
            if (row == null) {
                rows.remove(key);
            } else if (rows.size() == 200 && !rows.containsKey(key)) {
                return FULL;
            } else {
                rows.put(key, row);
            }
            work.changed();
            return open.set(i, false) ? 1 : 0;
        }

        int send(int branch) {
            if (!here(branch)) return BAD;
            Set<Integer> line = line(heads[branch]);
            if (otherHeads[branch] != null && !line.contains(otherHeads[branch])) return DIRTY;
            int before = otherNodes.size();
            for (int c : line) {
                for (int t = 0; t < 3; t++) {
                    otherNodes.addAll(commits[c].data().tree(t).all());
                }
            }
            otherCommits.addAll(line);
            otherHeads[branch] = heads[branch];
            return otherNodes.size() - before;
        }

        int fetch(int branch) {
            if (branch < 0 || branch > 5 || otherHeads[branch] == null) return BAD;
            int target = otherHeads[branch];
            if (heads[branch] != null && !line(target).contains(heads[branch])) return DIRTY;
            if (branch == atHand && !clean()) return DIRTY;
            if (branch == atHand && merging) return BUSY;
            present.addAll(line(target));
            heads[branch] = target;
            if (branch == atHand) {
                load();
            }
            return target;
        }

        int there(int branch) {
            return branch >= 0 && branch <= 5 && otherHeads[branch] != null ? otherHeads[branch] : BAD;
        }

        int kept(int which) {
            return which == 0 ? otherNodes.size() : which == 1 ? otherCommits.size() : BAD;
        }
    }

    /** Both programs have the same calls, so these are found by their names. */
    private static long answer(Object program, String name, int[] arguments) {
        for (Method method : program.getClass().getDeclaredMethods()) {
            if (method.getName().equals(name) && method.getParameterCount() == arguments.length) {
                Object answer = invoke(program, method, arguments);
                return answer instanceof Boolean yes ? (yes ? 1 : 0) : ((Number) answer).longValue();
            }
        }
        throw new IllegalStateException("there is no " + name);
    }

    private static Object invoke(Object program, Method method, int[] arguments) {
        try {
            return method.invoke(program, Arrays.stream(arguments).boxed().toArray());
        } catch (ReflectiveOperationException e) {
            throw new IllegalStateException(method.getName() + Arrays.toString(arguments), e);
        }
    }
}
