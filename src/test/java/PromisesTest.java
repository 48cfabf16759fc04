/** For each promise of the document: ordinary inputs, the edges that it names, and wrong inputs. */
public final class PromisesTest {
    private static final int NONE = TreeVersions.NONE;
    private static final int FULL = TreeVersions.FULL;
    private static final int BUSY = TreeVersions.BUSY;
    private static final int DIRTY = TreeVersions.DIRTY;
    private static final int BAD = TreeVersions.BAD;
    private static final long NOTHING = TreeVersions.NOTHING;
    private static final int MIN = Integer.MIN_VALUE;
    private static final int MAX = Integer.MAX_VALUE;
    /** No table, column, branch or commit has one of these numbers; -1 is the work where that is allowed. */
    private static final int[] ODD = {-2, MIN, MAX, 60, 63, 64, 128};

    private static int wrong = 0;

    private static void due(int promise, String what, long got, long want) {
        if (got != want) {
            wrong++;
            System.out.println("promise " + promise + ": " + what + " answered " + got + ", due is " + want);
        }
    }

    private static void due(int promise, String what, boolean holds) {
        due(promise, what, holds ? 1 : 0, 1);
    }

    public static void main(String[] args) {
        constants();
        newObject();
        put();
        cell();
        drop();
        fill();
        fillWraps();
        get();
        size();
        kth();
        rank();
        root();
        rootHangsOnTheRowsAlone();
        height();
        nodes();
        node();
        shared();
        stored();
        open();
        go();
        close();
        head();
        commit();
        commitsRunOut();
        parent();
        ancestors();
        base();
        reset();
        sweep();
        diff();
        diffKey();
        diffKind();
        merge();
        mergeColumns();
        mergeRows();
        mergeFull();
        pick();
        undo();
        merging();
        conflicts();
        conflict();
        version();
        settle();
        settleFull();
        send();
        fetch();
        fetchAtHand();
        there();
        kept();
        System.out.println(wrong == 0 ? "PromisesTest: all answers are as due" : "PromisesTest: " + wrong + " wrong");
        System.exit(wrong == 0 ? 0 : 1);
    }

    // ---- states to begin with

    /** Commit 1 has rows 1 .. 3 in table 0; nothing else. */
    private static TreeVersions oneCommit() {
        TreeVersions x = new TreeVersions();
        for (int key = 1; key <= 3; key++) {
            x.put(0, key, 10 * key, 20 * key, 30 * key);
        }
        x.commit();
        return x;
    }

    /** A merge is under way, it has no conflict, and the work is clean. */
    private static TreeVersions busy() {
        TreeVersions x = oneCommit();
        x.pick(1);
        return x;
    }

    /**
     * Commit 1 is the base. On branch 0 commit 2: row 1 gone, row 2 column 0 is 5, row 3 column 0 is 7,
     * row 4 new; on branch 1 commit 3: row 1 column 0 is 6, row 2 column 0 is 6, row 3 column 2 is 8, row 4
     * new with other columns; table 2 gets a row of key 9 on both, with other columns. Branch 0 at hand.
     */
    private static TreeVersions twoBranches() {
        TreeVersions x = oneCommit();
        x.open(1);
        x.drop(0, 1);
        x.cell(0, 2, 0, 5);
        x.cell(0, 3, 0, 7);
        x.put(0, 4, 1, 1, 1);
        x.put(2, 9, 1, 2, 3);
        x.commit();
        x.go(1);
        x.cell(0, 1, 0, 6);
        x.cell(0, 2, 0, 6);
        x.cell(0, 3, 2, 8);
        x.put(0, 4, 1, 2, 1);
        x.put(2, 9, 1, 2, 4);
        x.commit();
        x.go(0);
        return x;
    }

    /** twoBranches() with the merge of branch 1 under way: conflicts 1, 2, 4 of table 0 and 9 of table 2. */
    private static TreeVersions conflicted() {
        TreeVersions x = twoBranches();
        x.merge(1);
        return x;
    }

    /** A table is filled with keys from .. from + n - 1. */
    private static void fillUp(TreeVersions x, int t, int from, int n) {
        for (int i = 0; i < n; i += 100) {
            x.fill(t, from + i, 1, Math.min(100, n - i), i);
        }
    }

    // ---- the promises

    private static void constants() {
        due(1, "NONE", TreeVersions.NONE, -1);
        due(1, "FULL", TreeVersions.FULL, -2);
        due(1, "BUSY", TreeVersions.BUSY, -3);
        due(1, "DIRTY", TreeVersions.DIRTY, -4);
        due(1, "BAD", TreeVersions.BAD, -5);
        due(1, "NOTHING", TreeVersions.NOTHING, 4294967296L);
    }

    private static void newObject() {
        TreeVersions x = new TreeVersions();
        for (int t = 0; t < 3; t++) {
            due(1, "size of table " + t, x.size(t), 0);
            due(1, "root of commit 0", x.root(0, t), 1);
            due(1, "root of the work", x.root(NONE, t), 1);
        }
        due(1, "head(0)", x.head(0), 0);
        due(1, "close(0)", x.close(0), BAD);
        due(1, "ancestors(1)", x.ancestors(1), BAD);
        due(1, "merging()", x.merging() ? 1 : 0, 0);
        due(1, "commit()", x.commit(), NONE);
        for (int branch = 1; branch < 6; branch++) {
            due(1, "head of another branch", x.head(branch), BAD);
        }
        due(1, "stored()", x.stored(), 1);
    }

    private static void put() {
        TreeVersions x = new TreeVersions();
        due(2, "put of a new row", x.put(1, 7, 1, 2, 3), 1);
        due(2, "put of the same row", x.put(1, 7, 1, 2, 3), 0);
        due(2, "put of other columns", x.put(1, 7, 4, 5, MIN), 0);
        due(2, "column 0", x.get(1, 7, 0), 4);
        due(2, "column 1", x.get(1, 7, 1), 5);
        due(2, "column 2", x.get(1, 7, 2), MIN);
        due(2, "put of the least key", x.put(1, MIN, 1, 1, 1), 1);
        due(2, "put of the greatest key", x.put(1, MAX, 1, 1, 1), 1);
        due(2, "size(1)", x.size(1), 3);
        due(2, "size(0)", x.size(0), 0);
        due(2, "put in table -1", x.put(-1, 1, 1, 1, 1), BAD);
        due(2, "put in table 3", x.put(3, 1, 1, 1, 1), BAD);
        fillUp(x, 0, 0, 200);
        due(2, "put of row 201", x.put(0, 200, 1, 1, 1), FULL);
        due(2, "put of row 201 before all", x.put(0, -1, 1, 1, 1), FULL);
        due(2, "size(0) then", x.size(0), 200);
        due(2, "what is refused changes nothing", x.get(0, 200, 0), NOTHING);
        due(2, "put of a row of 200", x.put(0, 199, 1, 1, 1), 0);
        due(2, "put in another table", x.put(2, 200, 1, 1, 1), 1);
        x = busy();
        due(2, "put while a merge is under way", x.put(0, 1, 1, 1, 1), BUSY);
        due(2, "put in no table then", x.put(3, 1, 1, 1, 1), BAD);
        due(2, "the row then", x.get(0, 1, 0), 10);
    }

    private static void cell() {
        TreeVersions x = oneCommit();
        for (int c = 0; c < 3; c++) {
            due(3, "cell of column " + c, x.cell(0, 2, c, 100 + c), 1);
        }
        due(3, "cell with the same value", x.cell(0, 2, 0, 100), 1);
        for (int c = 0; c < 3; c++) {
            due(3, "column " + c, x.get(0, 2, c), 100 + c);
        }
        due(3, "the row beside it", x.get(0, 3, 0), 30);
        due(3, "cell of no row", x.cell(0, 9, 0, 1), NONE);
        due(3, "no row came by that", x.size(0), 3);
        due(3, "cell of column 3", x.cell(0, 2, 3, 1), BAD);
        due(3, "cell of column -1", x.cell(0, 2, -1, 1), BAD);
        due(3, "cell of table 3", x.cell(3, 2, 0, 1), BAD);
        due(3, "cell of table -1 without the row", x.cell(-1, 9, 0, 1), BAD);
        x = busy();
        due(3, "cell while a merge is under way", x.cell(0, 2, 0, 1), BUSY);
        due(3, "cell of no row then", x.cell(0, 9, 0, 1), BUSY);
        due(3, "cell of column 3 then", x.cell(0, 2, 3, 1), BAD);
    }

    private static void drop() {
        TreeVersions x = oneCommit();
        due(4, "drop in the middle", x.drop(0, 2), 1);
        due(4, "drop again", x.drop(0, 2), 0);
        due(4, "the row", x.get(0, 2, 0), NOTHING);
        due(4, "the row before", x.get(0, 1, 2), 30);
        due(4, "the row behind", x.get(0, 3, 2), 90);
        due(4, "drop of the last", x.drop(0, 3), 1);
        due(4, "drop of the first", x.drop(0, 1), 1);
        due(4, "size", x.size(0), 0);
        due(4, "drop in an empty table", x.drop(1, 1), 0);
        due(4, "drop in table 3", x.drop(3, 1), BAD);
        due(4, "drop in table -1", x.drop(-1, 1), BAD);
        x = busy();
        due(4, "drop while a merge is under way", x.drop(0, 1), BUSY);
        due(4, "drop in table 3 then", x.drop(3, 1), BAD);
        due(4, "size then", x.size(0), 3);
    }

    private static void fill() {
        TreeVersions x = new TreeVersions();
        x.put(0, 4, 1, 1, 1);
        due(5, "fill", x.fill(0, 0, 2, 5, 77), 5);
        int seed = 77;
        for (int key = 0; key < 10; key += 2) {
            for (int c = 0; c < 3; c++) {
                seed = seed * 1664525 + 1013904223;
                due(5, "column " + c + " of key " + key, x.get(0, key, c), seed);
            }
        }
        due(5, "fill of none", x.fill(0, 50, 1, 0, 1), 5);
        due(5, "fill downwards", x.fill(0, -1, -1, 3, 1), 8);
        due(5, "the least key", x.kth(0, 0), -3);
        due(5, "n is 101", x.fill(0, 0, 1, 101, 1), BAD);
        due(5, "n is -1", x.fill(0, 0, 1, -1, 1), BAD);
        due(5, "step is 0", x.fill(0, 0, 0, 1, 1), BAD);
        due(5, "step is 0, n too", x.fill(0, 0, 0, 0, 1), BAD);
        due(5, "table 3", x.fill(3, 0, 1, 1, 1), BAD);
        due(5, "table -1", x.fill(-1, 0, 1, 1, 1), BAD);
        due(5, "n is 100", x.fill(1, 0, 1, 100, 1), 100);
        due(5, "100 more", x.fill(1, 100, 1, 100, 1), 200);
        long before = x.root(NONE, 1);
        due(5, "one too many", x.fill(1, 150, 1, 51, 9), FULL);
        due(5, "nothing was done", x.root(NONE, 1), before);
        due(5, "rows that are there", x.fill(1, 150, 1, 50, 9), 200);
        due(5, "these got other columns", x.get(1, 150, 0), 9 * 1664525 + 1013904223);
        due(5, "fill of none in a full table", x.fill(1, 900, 1, 0, 1), 200);
        x = busy();
        due(5, "fill while a merge is under way", x.fill(0, 0, 1, 1, 1), BUSY);
        due(5, "fill of none then", x.fill(0, 0, 1, 0, 1), BUSY);
        due(5, "fill with step 0 then", x.fill(0, 0, 0, 1, 1), BAD);
    }

    private static void fillWraps() {
        TreeVersions x = new TreeVersions();
        due(5, "keys wrap", x.fill(0, MAX, 1, 3, 1), 3);
        due(5, "the least key", x.kth(0, 0), MIN);
        due(5, "the next", x.kth(0, 1), MIN + 1);
        due(5, "the greatest key", x.kth(0, 2), MAX);
        due(5, "a key comes twice", x.fill(1, 0, MIN, 3, 1), 2);
        int seed = 1;
        for (int i = 0; i < 7; i++) {
            seed = seed * 1664525 + 1013904223;
        }
        due(5, "the last columns stay", x.get(1, 0, 0), seed);
        due(5, "64 keys of 100", x.fill(2, 5, 1 << 26, 100, 1), 64);
        due(5, "100 keys of 100", x.fill(2, 6, 1 << 25, 100, 1), 164);
        due(5, "4 keys of 100", x.fill(2, 7, 3 << 30, 100, 1), 168);
        due(5, "32 keys of 100", x.fill(2, 8, -(1 << 27), 100, 1), 200);
        due(5, "the same ones again", x.fill(2, 8, -(1 << 27), 100, 2), 200);
        x.drop(2, 8);
        due(5, "two keys, room for one", x.fill(2, 9, MIN, 100, 1), FULL);
    }

    private static void get() {
        TreeVersions x = oneCommit();
        due(6, "get", x.get(0, 2, 0), 20);
        x.put(0, 5, -1, MIN, MAX);
        due(6, "get of -1", x.get(0, 5, 0), -1);
        due(6, "get of the least int", x.get(0, 5, 1), MIN);
        due(6, "get of the greatest int", x.get(0, 5, 2), MAX);
        due(6, "no row", x.get(0, 4, 0), NOTHING);
        due(6, "no row in that table", x.get(1, 2, 0), NOTHING);
        due(6, "column 3", x.get(0, 2, 3), NOTHING);
        due(6, "column -1", x.get(0, 2, -1), NOTHING);
        due(6, "table 3", x.get(3, 2, 0), NOTHING);
        due(6, "table -1", x.get(-1, 2, 0), NOTHING);
        x = conflicted();
        due(6, "get while a merge is under way", x.get(0, 3, 2), 8);
    }

    private static void size() {
        TreeVersions x = oneCommit();
        due(7, "size(0)", x.size(0), 3);
        due(7, "size(1)", x.size(1), 0);
        due(7, "size(3)", x.size(3), BAD);
        due(7, "size(-1)", x.size(-1), BAD);
        x.drop(0, 2);
        due(7, "size after drop", x.size(0), 2);
        x.reset();
        due(7, "size after reset", x.size(0), 3);
    }

    private static void kth() {
        TreeVersions x = new TreeVersions();
        int[] keys = {5, MAX, -5, MIN, 0};
        for (int key : keys) {
            x.put(2, key, 0, 0, 0);
        }
        long[] inOrder = {MIN, -5, 0, 5, MAX};
        for (int k = 0; k < 5; k++) {
            due(8, "kth of " + k, x.kth(2, k), inOrder[k]);
        }
        due(8, "kth of 5", x.kth(2, 5), NOTHING);
        due(8, "kth of -1", x.kth(2, -1), NOTHING);
        due(8, "kth in an empty table", x.kth(0, 0), NOTHING);
        due(8, "kth in table 3", x.kth(3, 0), NOTHING);
        due(8, "kth in table -1", x.kth(-1, 0), NOTHING);
    }

    private static void rank() {
        TreeVersions x = new TreeVersions();
        fillUp(x, 0, 1000, 200);
        for (int i = 0; i < 200; i++) {
            due(9, "rank of key " + i, x.rank(0, 1000 + i), i);
        }
        due(9, "rank of the least int", x.rank(0, MIN), 0);
        due(9, "rank of the greatest int", x.rank(0, MAX), 200);
        x.drop(0, 1005);
        due(9, "rank of a key that is not there", x.rank(0, 1005), 5);
        due(9, "rank of the next", x.rank(0, 1006), 5);
        due(9, "rank in an empty table", x.rank(1, 5), 0);
        due(9, "rank in table 3", x.rank(3, 5), BAD);
        due(9, "rank in table -1", x.rank(-1, 5), BAD);
    }

    private static void root() {
        TreeVersions x = new TreeVersions();
        x.put(0, 5, 1, 2, 3);
        x.put(0, -5, 1, 2, 3);
        x.put(0, MAX, 0, 0, 0);
        x.put(0, MIN, 0, 0, 0);
        due(10, "root of the work", x.root(NONE, 0), -4451859802278973802L);
        due(10, "root of commit 0", x.root(0, 0), 1);
        due(10, "root of no commit", x.root(1, 0), 0);
        x.commit();
        x.drop(0, 5);
        due(10, "root of commit 1", x.root(1, 0), -4451859802278973802L);
        due(10, "the work has another", x.root(NONE, 0) != x.root(1, 0));
        x.reset();
        due(10, "root of the work again", x.root(NONE, 0), -4451859802278973802L);
        for (int odd : ODD) {
            due(10, "root of commit " + odd, x.root(odd, 0), 0);
            due(10, "root of table " + odd, x.root(1, odd), 0);
        }
        due(10, "root of table 3", x.root(1, 3), 0);
        due(10, "root of table -1", x.root(1, -1), 0);
    }

    private static void rootHangsOnTheRowsAlone() {
        TreeVersions x = new TreeVersions();
        TreeVersions y = new TreeVersions();
        for (int i = 0; i < 200; i++) {
            x.put(0, i, i, 2 * i, 3 * i);
            int key = i * 37 % 200;
            y.put(1, key, key, 2 * key, 3 * key);
        }
        due(10, "rows that came in another order", y.root(NONE, 1), x.root(NONE, 0));
        y.drop(1, 100);
        due(10, "one row less is another tree", y.root(NONE, 1) != x.root(NONE, 0));
        y.put(1, 100, 100, 200, 300);
        due(10, "the row again", y.root(NONE, 1), x.root(NONE, 0));
        y.cell(1, 100, 2, 301);
        due(10, "one cell is another tree", y.root(NONE, 1) != x.root(NONE, 0));
    }

    private static void height() {
        TreeVersions x = new TreeVersions();
        due(11, "height without rows", x.height(NONE, 0), 1);
        x.put(0, 1, 1, 1, 1);
        due(11, "height of one row", x.height(NONE, 0), 1);
        fillUp(x, 1, 0, 200);
        due(11, "height of 200 rows", x.height(NONE, 1) >= 3 && x.height(NONE, 1) <= 8);
        due(11, "height in commit 0", x.height(0, 1), 1);
        due(11, "height in no commit", x.height(1, 1), BAD);
        for (int odd : ODD) {
            due(11, "height in commit " + odd, x.height(odd, 1), BAD);
            due(11, "height of table " + odd, x.height(0, odd), BAD);
        }
        due(11, "height of table 3", x.height(NONE, 3), BAD);
        due(11, "height of table -1", x.height(NONE, -1), BAD);
    }

    private static void nodes() {
        TreeVersions x = new TreeVersions();
        due(12, "nodes without rows", x.nodes(NONE, 0, 0), 1);
        due(12, "nodes on level 1", x.nodes(NONE, 0, 1), BAD);
        fillUp(x, 0, 0, 200);
        int height = x.height(NONE, 0);
        due(12, "20 nodes at least", x.nodes(NONE, 0, 0) >= 20 && x.nodes(NONE, 0, 0) <= 100);
        due(12, "nodes on the last level", x.nodes(NONE, 0, height - 1), 1);
        due(12, "more than one before it", x.nodes(NONE, 0, height - 2) > 1);
        due(12, "nodes behind the last level", x.nodes(NONE, 0, height), BAD);
        due(12, "nodes on level -1", x.nodes(NONE, 0, -1), BAD);
        x.commit();
        due(12, "nodes in a commit", x.nodes(1, 0, 0), x.nodes(NONE, 0, 0));
        due(12, "nodes behind its last level", x.nodes(1, 0, height), BAD);
        due(12, "nodes in commit 0", x.nodes(0, 0, 0), 1);
        for (int odd : ODD) {
            due(12, "nodes in commit " + odd, x.nodes(odd, 0, 0), BAD);
            due(12, "nodes of table " + odd, x.nodes(1, odd, 0), BAD);
            due(12, "nodes on level " + odd, x.nodes(1, 0, odd), BAD);
        }
    }

    private static void node() {
        TreeVersions x = new TreeVersions();
        due(13, "entries without rows", x.node(NONE, 0, 0, 0, 0), 0);
        due(13, "rows without rows", x.node(NONE, 0, 0, 0, 1), 0);
        due(13, "hash without rows", x.node(NONE, 0, 0, 0, 2), 1);
        due(13, "last key without rows", x.node(NONE, 0, 0, 0, 3), NOTHING);
        due(13, "node 1 without rows", x.node(NONE, 0, 0, 1, 3), 0);
        fillUp(x, 0, -50, 200);
        x.commit();
        nodesFitTogether(x, NONE);
        nodesFitTogether(x, 1);
        int top = x.height(1, 0) - 1;
        due(13, "hash of the root", x.node(1, 0, top, 0, 2), x.root(1, 0));
        due(13, "what 4", x.node(1, 0, top, 0, 4), 0);
        due(13, "what -1", x.node(1, 0, top, 0, -1), 0);
        due(13, "node 1 of the last level", x.node(1, 0, top, 1, 0), 0);
        due(13, "node -1", x.node(1, 0, 0, -1, 3), 0);
        due(13, "level -1", x.node(1, 0, -1, 0, 3), 0);
        due(13, "a level too many", x.node(1, 0, top + 1, 0, 3), 0);
        for (int odd : ODD) {
            due(13, "commit " + odd, x.node(odd, 0, 0, 0, 3), 0);
            due(13, "table " + odd, x.node(1, odd, 0, 0, 3), 0);
            due(13, "level " + odd, x.node(1, 0, odd, 0, 3), 0);
            due(13, "node " + odd, x.node(1, 0, 0, odd, 3), 0);
            due(13, "what " + odd, x.node(1, 0, 0, 0, odd), 0);
        }
    }

    /** Rows below, entries and last keys of table 0 must agree from level to level. */
    private static void nodesFitTogether(TreeVersions x, int c) {
        int entriesDue = 200;
        for (int level = 0; level < x.height(c, 0); level++) {
            int n = x.nodes(c, 0, level);
            long rows = 0;
            long entries = 0;
            for (int i = 0; i < n; i++) {
                long has = x.node(c, 0, level, i, 0);
                due(13, "2 to 10 entries", (has >= 2 || i == n - 1 && has == 1) && has <= 10);
                entries += has;
                rows += x.node(c, 0, level, i, 1);
                due(13, "last key", x.node(c, 0, level, i, 3), -50 + rows - 1);
            }
            due(13, "rows on level " + level, rows, 200);
            due(13, "entries on level " + level, entries, entriesDue);
            entriesDue = n;
        }
    }

    private static void shared() {
        TreeVersions x = new TreeVersions();
        fillUp(x, 0, 0, 200);
        x.commit();
        int all = 0;
        for (int level = 0; level < x.height(1, 0); level++) {
            all += x.nodes(1, 0, level);
        }
        due(14, "shared with itself", x.shared(1, 1, 0), all);
        due(14, "shared by a clean work", x.shared(NONE, 1, 0), all);
        due(14, "shared with nothing", x.shared(1, 0, 0), 0);
        due(14, "empty tables", x.shared(1, 0, 1), 1);
        x.cell(0, 0, 0, 5);
        due(14, "a path of nodes differs", x.shared(NONE, 1, 0) < all);
        due(14, "most nodes are the same", x.shared(NONE, 1, 0) > all / 2);
        due(14, "and on the other side", x.shared(1, NONE, 0), x.shared(NONE, 1, 0));
        due(14, "shared with no commit", x.shared(1, 2, 0), BAD);
        due(14, "no commit", x.shared(2, 1, 0), BAD);
        for (int odd : ODD) {
            due(14, "commit " + odd, x.shared(odd, 1, 0), BAD);
            due(14, "the other commit " + odd, x.shared(1, odd, 0), BAD);
            due(14, "table " + odd, x.shared(1, 1, odd), BAD);
        }
        due(14, "table 3", x.shared(1, 1, 3), BAD);
        due(14, "table -1", x.shared(1, 1, -1), BAD);
    }

    private static void stored() {
        TreeVersions x = new TreeVersions();
        x.put(0, 1, 1, 1, 1);
        due(15, "a node of the work", x.stored(), 2);
        x.put(1, 1, 1, 1, 1);
        due(15, "the same one in another table of the work", x.stored(), 2);
        x.commit();
        due(15, "the same ones in a commit", x.stored(), 2);
        x.put(2, 2, 1, 1, 1);
        due(15, "another key", x.stored(), 3);
        x.cell(2, 2, 0, 2);
        due(15, "another column", x.stored(), 3);
        x.put(1, 2, 2, 1, 1);
        x.drop(1, 1);
        due(15, "the same as another table's", x.stored(), 3);
        x.reset();
        due(15, "without it", x.stored(), 2);
        x.drop(0, 1);
        x.drop(1, 1);
        due(15, "those of commits stay", x.stored(), 2);
        x.reset();
        x.open(1);
        x.put(0, 5, 5, 5, 5);
        x.commit();
        due(15, "the work is a commit", x.stored(), 3);
        x.go(1);
        due(15, "of a commit at no hand", x.stored(), 3);
        x.close(0);
        due(15, "of a commit of no branch", x.stored(), 3);
        x.sweep();
        due(15, "of a commit that went", x.stored(), 2);
    }

    private static void open() {
        TreeVersions x = oneCommit();
        due(16, "open(5)", x.open(5), 1);
        due(16, "its head", x.head(5), 1);
        due(16, "open(5) again", x.open(5), NONE);
        due(16, "open(0)", x.open(0), NONE);
        due(16, "open(6)", x.open(6), BAD);
        due(16, "open(-1)", x.open(-1), BAD);
        x.put(0, 9, 9, 9, 9);
        due(16, "open with a work that is not clean", x.open(1), 1);
        due(16, "branch 0 is still at hand", x.close(0), BAD);
        x = busy();
        due(16, "open while a merge is under way", x.open(1), BUSY);
        due(16, "open(0) then", x.open(0), BUSY);
        due(16, "open(6) then", x.open(6), BAD);
        due(16, "head(1) then", x.head(1), BAD);
    }

    private static void go() {
        TreeVersions x = twoBranches();
        due(17, "go(1)", x.go(1), 3);
        due(17, "the work is that of its head", x.get(0, 1, 0), 6);
        due(17, "branch 1 is at hand", x.close(1), BAD);
        due(17, "go(1) again", x.go(1), 3);
        due(17, "go(2)", x.go(2), BAD);
        due(17, "go(6)", x.go(6), BAD);
        due(17, "go(-1)", x.go(-1), BAD);
        x.put(0, 1, 1, 1, 1);
        due(17, "go with a work that is not clean", x.go(0), DIRTY);
        due(17, "go to the branch at hand then", x.go(1), DIRTY);
        due(17, "go to no branch then", x.go(2), BAD);
        due(17, "the work then", x.get(0, 1, 0), 1);
        x.put(0, 1, 6, 20, 30);
        due(17, "go with a work that is clean again", x.go(0), 2);
        x = conflicted();
        due(17, "go while a merge is under way", x.go(1), BUSY);
        due(17, "go to no branch while one is", x.go(2), BAD);
    }

    private static void close() {
        TreeVersions x = twoBranches();
        due(18, "close(0)", x.close(0), BAD);
        due(18, "close(1)", x.close(1), 3);
        due(18, "close(1) again", x.close(1), BAD);
        due(18, "head(1)", x.head(1), BAD);
        due(18, "its commits stay", x.parent(3, 0), 1);
        due(18, "close(6)", x.close(6), BAD);
        due(18, "close(-1)", x.close(-1), BAD);
        due(18, "open(1) again", x.open(1), 2);
        x = conflicted();
        due(18, "close while a merge is under way", x.close(1), 3);
        for (int i = 0; i < 4; i++) {
            x.settle(i, 2);
        }
        due(18, "commit() then", x.commit(), 4);
        due(18, "its second parent", x.parent(4, 1), 3);
    }

    private static void head() {
        TreeVersions x = twoBranches();
        due(19, "head(0)", x.head(0), 2);
        due(19, "head(1)", x.head(1), 3);
        due(19, "head(2)", x.head(2), BAD);
        due(19, "head(5)", x.head(5), BAD);
        due(19, "head(6)", x.head(6), BAD);
        due(19, "head(-1)", x.head(-1), BAD);
    }

    private static void commit() {
        TreeVersions x = new TreeVersions();
        due(20, "commit() of a clean work", x.commit(), NONE);
        x.put(2, 1, 1, 1, 1);
        due(20, "commit()", x.commit(), 1);
        due(20, "head(0)", x.head(0), 1);
        due(20, "its parent", x.parent(1, 0), 0);
        due(20, "commit() again", x.commit(), NONE);
        x.cell(2, 1, 0, 2);
        x.cell(2, 1, 0, 1);
        due(20, "commit() of a work that is clean again", x.commit(), NONE);
        due(20, "pick(1)", x.pick(1), 2);
        due(20, "commit() of a clean work while a merge is under way", x.commit(), 2);
        due(20, "the merge is over", x.merging() ? 1 : 0, 0);
        due(20, "the one parent", x.parent(2, 0), 1);
        due(20, "no second parent", x.parent(2, 1), NONE);
        x = conflicted();
        for (int i = 0; i < 4; i++) {
            due(20, "commit() with a conflict open", x.commit(), BUSY);
            x.settle(i, 1);
        }
        due(20, "commit() of a merge", x.commit(), 4);
        due(20, "first parent", x.parent(4, 0), 2);
        due(20, "second parent", x.parent(4, 1), 3);
        due(20, "branch 1 stays", x.head(1), 3);
        due(20, "no conflicts then", x.conflicts(1), 0);
        x.put(1, 1, 1, 1, 1);
        x.commit();
        due(20, "a commit behind a merge has one parent", x.parent(5, 1), NONE);
    }

    private static void commitsRunOut() {
        TreeVersions x = new TreeVersions();
        for (int c = 1; c < 60; c++) {
            x.put(0, 1, c, 0, 0);
            due(20, "commit()", x.commit(), c);
        }
        due(20, "commit() of a clean work", x.commit(), NONE);
        x.put(0, 1, 60, 0, 0);
        due(20, "commit() of number 60", x.commit(), FULL);
        due(20, "head(0) then", x.head(0), 59);
        due(22, "ancestors(59)", x.ancestors(59), 60);
        due(22, "ancestors(60)", x.ancestors(60), BAD);
        due(10, "root(60, 0)", x.root(60, 0), 0);
        x.reset();
        due(30, "pick(59)", x.pick(59), 2);
        due(20, "commit() of a merge", x.commit(), FULL);
        due(20, "it is still under way", x.merging());
        x = new TreeVersions();
        x.open(1);
        for (int c = 1; c < 60; c++) {
            x.put(0, 1, c, 0, 0);
            x.commit();
        }
        x.go(1);
        x.close(0);
        due(25, "sweep() of 59", x.sweep(), 59);
        x.put(0, 1, 1, 1, 1);
        due(20, "numbers are never given twice", x.commit(), FULL);
    }

    private static void parent() {
        TreeVersions x = conflicted();
        for (int i = 0; i < 4; i++) {
            x.settle(i, 0);
        }
        x.commit();
        due(21, "parent(0, 0)", x.parent(0, 0), NONE);
        due(21, "parent(0, 1)", x.parent(0, 1), NONE);
        due(21, "parent(1, 0)", x.parent(1, 0), 0);
        due(21, "parent(3, 0)", x.parent(3, 0), 1);
        due(21, "parent(3, 1)", x.parent(3, 1), NONE);
        due(21, "parent(4, 0)", x.parent(4, 0), 2);
        due(21, "parent(4, 1)", x.parent(4, 1), 3);
        due(21, "parent(4, 2)", x.parent(4, 2), NONE);
        due(21, "parent(4, -1)", x.parent(4, -1), NONE);
        due(21, "parent(5, 0)", x.parent(5, 0), BAD);
        due(21, "parent(-1, 0)", x.parent(-1, 0), BAD);
        for (int odd : ODD) {
            due(21, "parent of commit " + odd, x.parent(odd, 0), BAD);
        }
    }

    private static void ancestors() {
        TreeVersions x = conflicted();
        for (int i = 0; i < 4; i++) {
            x.settle(i, 0);
        }
        x.commit();
        int[] want = {1, 2, 3, 3, 5};
        for (int c = 0; c < 5; c++) {
            due(22, "ancestors of " + c, x.ancestors(c), want[c]);
        }
        due(22, "ancestors(5)", x.ancestors(5), BAD);
        due(22, "ancestors(-1)", x.ancestors(-1), BAD);
        for (int odd : ODD) {
            due(22, "ancestors of " + odd, x.ancestors(odd), BAD);
        }
    }

    private static void base() {
        TreeVersions x = twoBranches();
        due(23, "base(2, 3)", x.base(2, 3), 1);
        due(23, "base(3, 2)", x.base(3, 2), 1);
        due(23, "base(2, 2)", x.base(2, 2), 2);
        due(23, "base(2, 1)", x.base(2, 1), 1);
        due(23, "base(0, 3)", x.base(0, 3), 0);
        due(23, "base(4, 1)", x.base(4, 1), BAD);
        due(23, "base(1, 4)", x.base(1, 4), BAD);
        due(23, "base(-1, 1)", x.base(-1, 1), BAD);
        for (int odd : ODD) {
            due(23, "base with " + odd, x.base(odd, 1), BAD);
            due(23, "base and " + odd, x.base(1, odd), BAD);
        }
        x.open(2);
        x.merge(1);
        settleAll(x, 1);
        due(23, "2 and 3 merged", x.commit(), 4);
        x.go(2);
        x.merge(1);
        settleAll(x, 2);
        due(23, "2 and 3 merged again", x.commit(), 5);
        due(23, "of two bases the greatest number", x.base(4, 5), 3);
    }

    private static void settleAll(TreeVersions x, int which) {
        for (int i = 0; i < x.conflicts(1); i++) {
            x.settle(i, which);
        }
    }

    private static void reset() {
        TreeVersions x = oneCommit();
        due(24, "reset() of a clean work", x.reset(), 0);
        x.put(0, 1, 1, 1, 1);
        x.put(1, 1, 1, 1, 1);
        x.drop(0, 2);
        due(24, "reset()", x.reset(), 1);
        due(24, "the row", x.get(0, 1, 0), 10);
        due(24, "the row that went", x.get(0, 2, 0), 20);
        due(24, "the other table", x.size(1), 0);
        due(24, "reset() again", x.reset(), 0);
        x.pick(1);
        due(24, "reset() of a merge with a clean work", x.reset(), 1);
        due(24, "no merge is under way", x.merging() ? 1 : 0, 0);
        x = conflicted();
        due(24, "reset() of a merge", x.reset(), 1);
        due(24, "no conflicts then", x.conflicts(0), 0);
        due(24, "the work is that of the head", x.root(NONE, 0), x.root(2, 0));
        due(24, "merge again", x.merge(1), 6);
    }

    private static void sweep() {
        TreeVersions x = twoBranches();
        due(25, "sweep() of nothing", x.sweep(), 0);
        x.close(1);
        due(25, "sweep()", x.sweep(), 1);
        due(25, "ancestors(3)", x.ancestors(3), BAD);
        due(25, "root(3, 0)", x.root(3, 0), 0);
        due(25, "diff(3, 2, 0)", x.diff(3, 2, 0), BAD);
        due(25, "pick(3)", x.pick(3), BAD);
        due(25, "commit 2 stays", x.ancestors(2), 3);
        due(25, "sweep() again", x.sweep(), 0);
        x.put(0, 50, 1, 1, 1);
        due(25, "sweep() with a work that is not clean", x.sweep(), 0);
        due(25, "the next number", x.commit(), 4);
        x = busy();
        due(25, "sweep() while a merge is under way", x.sweep(), BUSY);
        x = conflicted();
        settleAll(x, 2);
        x.commit();
        x.close(1);
        due(25, "second parents stay", x.sweep(), 0);
        due(25, "the second parent", x.parent(4, 1), 3);
    }

    private static void diff() {
        TreeVersions x = twoBranches();
        due(26, "diff(1, 2, 0)", x.diff(1, 2, 0), 4);
        due(26, "diff(1, 2, 2)", x.diff(1, 2, 2), 1);
        due(26, "diff(1, 2, 1)", x.diff(1, 2, 1), 0);
        due(26, "diff(2, 2, 0)", x.diff(2, 2, 0), 0);
        due(26, "diff(NONE, 2, 0)", x.diff(NONE, 2, 0), 0);
        x.put(0, 77, 1, 1, 1);
        due(26, "diff(2, NONE, 0)", x.diff(2, NONE, 0), 1);
        due(26, "diffKind(0)", x.diffKind(0), 1);
        due(26, "diff(NONE, 2, 0) then", x.diff(NONE, 2, 0), 1);
        due(26, "diffKind(0) then", x.diffKind(0), 2);
        due(26, "diff(9, 2, 0)", x.diff(9, 2, 0), BAD);
        due(26, "diff(2, 9, 0)", x.diff(2, 9, 0), BAD);
        due(26, "diff(2, 2, 3)", x.diff(2, 2, 3), BAD);
        due(26, "diff(2, 2, -1)", x.diff(2, 2, -1), BAD);
        due(26, "the list stays", x.diffKey(0), 77);
        for (int odd : ODD) {
            due(26, "diff from " + odd, x.diff(odd, 2, 0), BAD);
            due(26, "diff to " + odd, x.diff(2, odd, 0), BAD);
            due(26, "diff of table " + odd, x.diff(2, 2, odd), BAD);
        }
        x = new TreeVersions();
        fillUp(x, 0, 0, 200);
        x.commit();
        for (int key = 0; key < 200; key++) {
            x.drop(0, key);
        }
        fillUp(x, 0, 1000, 200);
        due(26, "all rows went and as many came", x.diff(1, NONE, 0), 400);
        due(26, "the last key", x.diffKey(399), 1199);
        due(26, "its kind", x.diffKind(399), 1);
        due(26, "the first kind", x.diffKind(0), 2);
    }

    private static void diffKey() {
        TreeVersions x = twoBranches();
        due(27, "diffKey(0) before diff()", x.diffKey(0), NOTHING);
        x.diff(1, 2, 0);
        for (int i = 0; i < 4; i++) {
            due(27, "diffKey of " + i, x.diffKey(i), i + 1);
        }
        due(27, "diffKey(4)", x.diffKey(4), NOTHING);
        due(27, "diffKey(-1)", x.diffKey(-1), NOTHING);
        x.drop(0, 2);
        x.commit();
        x.go(1);
        x.close(0);
        x.sweep();
        due(27, "the list stays, whatever changes", x.diffKey(3), 4);
        due(27, "diff() of no commit", x.diff(1, 2, 0), BAD);
        due(27, "the list stays then", x.diffKey(3), 4);
        x.diff(1, 1, 0);
        due(27, "the next list", x.diffKey(0), NOTHING);
        x.put(1, MIN, 1, 1, 1);
        x.put(1, -1, 1, 1, 1);
        x.diff(1, NONE, 1);
        due(27, "the least key", x.diffKey(0), MIN);
        due(27, "key -1", x.diffKey(1), -1);
        for (int odd : ODD) {
            due(27, "diffKey of " + odd, x.diffKey(odd), NOTHING);
        }
    }

    private static void diffKind() {
        TreeVersions x = new TreeVersions();
        due(28, "diffKind(0) before diff()", x.diffKind(0), 0);
        for (int key = 0; key < 9; key++) {
            x.put(0, key, 1, 2, 3);
        }
        x.commit();
        for (int key = 1; key < 8; key++) {
            x.put(0, key, (key & 1) != 0 ? 7 : 1, (key & 2) != 0 ? 7 : 2, (key & 4) != 0 ? 7 : 3);
        }
        x.drop(0, 8);
        x.put(0, 9, 1, 2, 3);
        due(28, "diff(1, NONE, 0)", x.diff(1, NONE, 0), 9);
        for (int i = 0; i < 7; i++) {
            due(28, "columns of key " + (i + 1), x.diffKind(i), 8 + i + 1);
        }
        due(28, "went", x.diffKind(7), 2);
        due(28, "came", x.diffKind(8), 1);
        due(28, "diffKind(9)", x.diffKind(9), 0);
        due(28, "diffKind(-1)", x.diffKind(-1), 0);
        for (int odd : ODD) {
            due(28, "diffKind of " + odd, x.diffKind(odd), 0);
        }
    }

    private static void merge() {
        TreeVersions x = oneCommit();
        due(29, "merge of the branch at hand", x.merge(0), 0);
        x.open(1);
        x.put(0, 5, 5, 5, 5);
        x.commit();
        due(29, "THEIRS is an ancestor of OURS", x.merge(1), 0);
        x.go(1);
        due(29, "OURS is an ancestor of THEIRS", x.merge(0), 1);
        due(29, "that becomes the head", x.head(1), 2);
        due(29, "and the work", x.get(0, 5, 0), 5);
        due(29, "no merge is under way", x.merging() ? 1 : 0, 0);
        due(29, "merge(2)", x.merge(2), BAD);
        due(29, "merge(6)", x.merge(6), BAD);
        due(29, "merge(-1)", x.merge(-1), BAD);
        x.put(0, 5, 6, 6, 6);
        due(29, "merge with a work that is not clean", x.merge(0), DIRTY);
        due(29, "merge of no branch then", x.merge(2), BAD);
        x = twoBranches();
        due(29, "merge with conflicts", x.merge(1), 6);
        due(29, "merge while one is under way", x.merge(1), BUSY);
        due(29, "merge of no branch while one is under way", x.merge(2), BAD);
        due(29, "the head stays", x.head(0), 2);
        due(29, "a key in conflict is as in OURS", x.get(0, 2, 0), 5);
        due(29, "also if that has none", x.get(0, 1, 0), NOTHING);
        due(29, "columns of both", x.get(0, 3, 0), 7);
        due(29, "columns of both then", x.get(0, 3, 2), 8);
        due(29, "the column that neither changed", x.get(0, 3, 1), 60);
        due(29, "a row that both put", x.get(0, 4, 1), 1);
    }

    /** The whole run for each column anew: an object is used for at most 512 calls. */
    private static void mergeColumns() {
        // Column by column: OLD, OURS, THEIRS and what comes of them; the last one is in conflict.
        int[][] cases = {{1, 1, 1, 1}, {1, 2, 2, 2}, {1, 1, 2, 2}, {1, 2, 1, 2}, {1, 2, 3, NONE}};
        for (int c = 0; c < 3; c++) {
            TreeVersions x = new TreeVersions();
            putCases(x, cases, 0);
            x.open(1);
            putCases(x, cases, 1);
            x.go(1);
            putCases(x, cases, 2);
            x.go(0);
            due(29, "61 keys have a column where all three differ", x.merge(1), 2 + 61);
            for (int key = 0; key < 125; key++) {
                int[] ways = {key % 5, key / 5 % 5, key / 25};
                boolean inConflict = ways[0] == 4 || ways[1] == 4 || ways[2] == 4;
                due(29, "column " + c + " of key " + key, x.get(1, key, c), cases[ways[c]][inConflict ? 1 : 3]);
            }
        }
    }

    private static void putCases(TreeVersions x, int[][] cases, int version) {
        for (int key = 0; key < 125; key++) {
            x.put(1, key, cases[key % 5][version], cases[key / 5 % 5][version], cases[key / 25][version]);
        }
        x.commit();
    }

    private static void mergeRows() {
        // A digit a key, of OLD, OURS, THEIRS: 0 is no row, 1 and 2 and 3 are rows that differ in all columns.
        String[] ways = {"000", "001", "010", "011", "012", "100", "101", "110", "111", "112", "121", "122",
            "102", "120", "123"};
        int[] want = {0, 1, 1, 1, 1, 0, 0, 0, 1, 2, 2, 2, 0, 2, 2};
        boolean[] inConflict = new boolean[15];
        inConflict[4] = inConflict[12] = inConflict[13] = inConflict[14] = true;
        TreeVersions x = new TreeVersions();
        putWays(x, ways, 0);
        x.commit();
        x.open(1);
        putWays(x, ways, 1);
        x.commit();
        x.go(1);
        putWays(x, ways, 2);
        x.commit();
        x.go(0);
        due(29, "four conflicts", x.merge(1), 2 + 4);
        int conflicts = 0;
        for (int key = 0; key < ways.length; key++) {
            long due = want[key] == 0 ? NOTHING : want[key];
            due(29, "row of " + ways[key], x.get(0, key, 2), due);
            if (inConflict[key]) {
                due(34, "conflict of " + ways[key], x.conflict(conflicts, 1), key);
                conflicts++;
            }
        }
    }

    private static void putWays(TreeVersions x, String[] ways, int version) {
        for (int key = 0; key < ways.length; key++) {
            int row = ways[key].charAt(version) - '0';
            if (row == 0) {
                x.drop(0, key);
            } else {
                x.put(0, key, row, row, row);
            }
        }
    }

    private static void mergeFull() {
        TreeVersions x = new TreeVersions();
        fillUp(x, 2, 0, 199);
        x.put(0, 1, 1, 1, 1);
        x.commit();
        x.open(1);
        x.put(2, 500, 1, 1, 1);
        x.put(0, 1, 2, 1, 1);
        x.commit();
        x.go(1);
        x.put(2, 600, 1, 1, 1);
        x.put(0, 1, 3, 1, 1);
        x.commit();
        x.go(0);
        due(29, "a table would have 201 rows", x.merge(1), FULL);
        due(29, "no merge is under way", x.merging() ? 1 : 0, 0);
        due(33, "nor a conflict", x.conflicts(1), 0);
        due(29, "the work stays", x.reset(), 0);
        due(30, "pick with 201 rows", x.pick(3), FULL);
        due(31, "undo of what is not there", x.undo(3), 3);
        x.reset();
        x.drop(2, 5);
        x.drop(2, 500);
        x.put(2, 501, 1, 1, 1);
        x.commit();
        due(29, "a table will have 200 rows", x.merge(1), 3);
        due(29, "size(2)", x.size(2), 200);
    }

    private static void pick() {
        TreeVersions x = twoBranches();
        due(30, "pick(0)", x.pick(0), BAD);
        due(30, "pick(4)", x.pick(4), BAD);
        due(30, "pick(-1)", x.pick(-1), BAD);
        due(30, "pick(3)", x.pick(3), 6);
        due(30, "a merge is under way", x.merging());
        due(30, "pick while one is under way", x.pick(3), BUSY);
        due(30, "pick(0) then", x.pick(0), BAD);
        settleAll(x, 2);
        due(30, "commit()", x.commit(), 4);
        due(30, "its parent", x.parent(4, 0), 2);
        due(30, "it has one", x.parent(4, 1), NONE);
        due(30, "the work is as THEIRS", x.get(0, 2, 0), 6);
        x.put(1, 1, 1, 1, 1);
        due(30, "pick with a work that is not clean", x.pick(3), DIRTY);
        x.commit();
        x.put(1, 2, 2, 2, 2);
        x.commit();
        x.go(1);
        due(30, "pick(6) on branch 1", x.pick(6), 2);
        due(30, "what it changed", x.get(1, 2, 0), 2);
        due(30, "not what others did", x.get(1, 1, 0), NOTHING);
        x.reset();
        x.merge(0);
        settleAll(x, 1);
        due(30, "a merge's number", x.commit(), 7);
        due(30, "pick of two parents", x.pick(7), BAD);
        for (int odd : ODD) {
            due(30, "pick of " + odd, x.pick(odd), BAD);
        }
    }

    private static void undo() {
        TreeVersions x = twoBranches();
        due(31, "undo(0)", x.undo(0), BAD);
        due(31, "undo(4)", x.undo(4), BAD);
        due(31, "undo(-1)", x.undo(-1), BAD);
        due(31, "undo(2)", x.undo(2), 2);
        due(31, "the row again", x.get(0, 1, 0), 10);
        due(31, "the work is as its parent", x.root(NONE, 0), x.root(1, 0));
        due(31, "undo while one is under way", x.undo(2), BUSY);
        due(31, "undo(0) then", x.undo(0), BAD);
        due(31, "commit()", x.commit(), 4);
        due(31, "its parent", x.parent(4, 0), 2);
        due(31, "it has one", x.parent(4, 1), NONE);
        x.put(0, 2, 9, 9, 9);
        due(31, "undo with a work that is not clean", x.undo(2), DIRTY);
        x.commit();
        due(31, "undo of what has changed since", x.undo(1), 3);
        due(31, "its key", x.conflict(0, 1), 2);
        due(35, "OLD is the commit", x.version(0, 0, 0), 20);
        due(35, "OURS the head", x.version(0, 1, 0), 9);
        due(35, "THEIRS its parent", x.version(0, 2, 0), NOTHING);
        due(31, "what has not changed went", x.get(0, 1, 0), NOTHING);
        x.reset();
        x.merge(1);
        settleAll(x, 1);
        due(31, "a merge's number", x.commit(), 6);
        due(31, "undo of two parents", x.undo(6), BAD);
        for (int odd : ODD) {
            due(31, "undo of " + odd, x.undo(odd), BAD);
        }
        x = new TreeVersions();
        fillUp(x, 0, 0, 200);
        x.commit();
        x.drop(0, 7);
        x.commit();
        x.put(0, 1000, 1, 1, 1);
        x.commit();
        due(31, "a table would have 201 rows", x.undo(2), FULL);
    }

    private static void merging() {
        TreeVersions x = twoBranches();
        due(32, "at first", !x.merging());
        x.merge(1);
        due(32, "by merge()", x.merging());
        x.reset();
        due(32, "after reset()", !x.merging());
        x.pick(3);
        due(32, "by pick()", x.merging());
        settleAll(x, 1);
        due(32, "with all conflicts settled", x.merging());
        x.commit();
        due(32, "after commit()", !x.merging());
        x.undo(1);
        due(32, "by undo()", x.merging());
    }

    private static void conflicts() {
        TreeVersions x = twoBranches();
        due(33, "conflicts(0) at first", x.conflicts(0), 0);
        due(33, "conflicts(1) at first", x.conflicts(1), 0);
        x.merge(1);
        due(33, "conflicts(0)", x.conflicts(0), 4);
        due(33, "conflicts(1)", x.conflicts(1), 4);
        x.settle(2, 0);
        x.settle(2, 1);
        due(33, "conflicts(0) then", x.conflicts(0), 3);
        due(33, "conflicts(1) then", x.conflicts(1), 4);
        due(33, "conflicts(2)", x.conflicts(2), BAD);
        due(33, "conflicts(-1)", x.conflicts(-1), BAD);
        x.reset();
        due(33, "conflicts(0) after reset()", x.conflicts(0), 0);
        due(33, "conflicts(1) after reset()", x.conflicts(1), 0);
    }

    private static void conflict() {
        TreeVersions x = twoBranches();
        due(34, "conflict(0, 0) at first", x.conflict(0, 0), NOTHING);
        x.merge(1);
        int[] tables = {0, 0, 0, 2};
        int[] keys = {1, 2, 4, 9};
        for (int i = 0; i < 4; i++) {
            due(34, "table of " + i, x.conflict(i, 0), tables[i]);
            due(34, "key of " + i, x.conflict(i, 1), keys[i]);
            due(34, "whether open " + i, x.conflict(i, 2), 1);
        }
        x.settle(1, 2);
        due(34, "a settled one", x.conflict(1, 2), 0);
        due(34, "its key", x.conflict(1, 1), 2);
        due(34, "the next one", x.conflict(2, 2), 1);
        due(34, "conflict(4, 0)", x.conflict(4, 0), NOTHING);
        due(34, "conflict(-1, 0)", x.conflict(-1, 0), NOTHING);
        due(34, "conflict(0, 3)", x.conflict(0, 3), NOTHING);
        due(34, "conflict(0, -1)", x.conflict(0, -1), NOTHING);
        for (int odd : ODD) {
            due(34, "conflict " + odd, x.conflict(odd, 0), NOTHING);
            due(34, "what " + odd, x.conflict(0, odd), NOTHING);
        }
        settleAll(x, 1);
        x.commit();
        due(34, "after commit()", x.conflict(0, 0), NOTHING);
    }

    private static void version() {
        TreeVersions x = twoBranches();
        due(35, "version(0, 0, 0) at first", x.version(0, 0, 0), NOTHING);
        x.merge(1);
        due(35, "OLD", x.version(0, 0, 0), 10);
        due(35, "OURS has no row", x.version(0, 1, 0), NOTHING);
        due(35, "THEIRS", x.version(0, 2, 0), 6);
        due(35, "THEIRS column 2", x.version(0, 2, 2), 30);
        due(35, "OLD has no row", x.version(3, 0, 2), NOTHING);
        due(35, "OURS in table 2", x.version(3, 1, 2), 3);
        due(35, "THEIRS in table 2", x.version(3, 2, 2), 4);
        x.settle(3, 2);
        due(35, "OURS of a settled one", x.version(3, 1, 2), 3);
        due(35, "version(0, 3, 0)", x.version(0, 3, 0), NOTHING);
        due(35, "version(0, -1, 0)", x.version(0, -1, 0), NOTHING);
        due(35, "version(0, 0, 3)", x.version(0, 0, 3), NOTHING);
        due(35, "version(0, 0, -1)", x.version(0, 0, -1), NOTHING);
        due(35, "version(4, 0, 0)", x.version(4, 0, 0), NOTHING);
        due(35, "version(-1, 0, 0)", x.version(-1, 0, 0), NOTHING);
        for (int odd : ODD) {
            due(35, "conflict " + odd, x.version(odd, 0, 0), NOTHING);
            due(35, "version " + odd, x.version(0, odd, 0), NOTHING);
            due(35, "column " + odd, x.version(0, 0, odd), NOTHING);
        }
        x.reset();
        due(35, "after reset()", x.version(0, 0, 0), NOTHING);
    }

    private static void settle() {
        TreeVersions x = twoBranches();
        due(36, "settle(0, 0) at first", x.settle(0, 0), BAD);
        x.merge(1);
        due(36, "settle by THEIRS", x.settle(0, 2), 1);
        due(36, "the work has that row", x.get(0, 1, 0), 6);
        due(36, "settle by OLD", x.settle(0, 0), 0);
        due(36, "the work has that row then", x.get(0, 1, 0), 10);
        due(36, "settle by OURS", x.settle(0, 1), 0);
        due(36, "the work has none", x.get(0, 1, 0), NOTHING);
        due(36, "settle by none again", x.settle(0, 1), 0);
        due(36, "settle of table 2 by none", x.settle(3, 0), 1);
        due(36, "the row there", x.get(2, 9, 0), NOTHING);
        due(36, "settle(4, 0)", x.settle(4, 0), BAD);
        due(36, "settle(-1, 0)", x.settle(-1, 0), BAD);
        due(36, "settle(1, 3)", x.settle(1, 3), BAD);
        due(36, "settle(1, -1)", x.settle(1, -1), BAD);
        for (int odd : ODD) {
            due(36, "conflict " + odd, x.settle(odd, 0), BAD);
            due(36, "version " + odd, x.settle(1, odd), BAD);
        }
        due(36, "still open", x.conflict(1, 2), 1);
        due(36, "the tree follows", x.root(NONE, 2), 1);
        settleAll(x, 1);
        x.commit();
        due(36, "settle after commit()", x.settle(0, 0), BAD);
    }

    private static void settleFull() {
        TreeVersions x = new TreeVersions();
        fillUp(x, 0, 0, 200);
        x.commit();
        x.open(1);
        x.drop(0, 3);
        x.drop(0, 4);
        x.put(0, 500, 1, 1, 1);
        x.commit();
        x.go(1);
        x.cell(0, 3, 0, 3);
        x.cell(0, 4, 0, 4);
        x.commit();
        x.go(0);
        due(36, "two conflicts", x.merge(1), 4);
        due(36, "settle by THEIRS", x.settle(0, 2), 1);
        due(36, "there are 200 rows", x.size(0), 200);
        due(36, "one too many", x.settle(1, 2), FULL);
        due(36, "it stays open", x.conflict(1, 2), 1);
        due(36, "the work has none", x.get(0, 4, 0), NOTHING);
        due(36, "a row of 200 settled again", x.settle(0, 0), 0);
        due(36, "none where there is none", x.settle(1, 1), 1);
        due(36, "one too many for a settled one", x.settle(1, 0), FULL);
        due(36, "no row instead", x.settle(0, 1), 0);
        due(36, "there is room now", x.settle(1, 0), 0);
        due(36, "size(0)", x.size(0), 200);
    }

    private static void send() {
        TreeVersions x = twoBranches();
        due(37, "send(2)", x.send(2), BAD);
        due(37, "send(6)", x.send(6), BAD);
        due(37, "send(-1)", x.send(-1), BAD);
        due(37, "nothing came", x.kept(0), 1);
        // The empty node is there; commit 1 brings one node, commit 2 one of table 0 and one of table 2.
        due(37, "send(0)", x.send(0), x.stored() - 3);
        due(37, "its head there", x.there(0), 2);
        due(37, "send(0) again", x.send(0), 0);
        due(37, "send(1)", x.send(1), 2);
        due(37, "all nodes are there", x.kept(0), x.stored());
        due(37, "all commits are there", x.kept(1), 4);
        x.put(1, 1, 1, 1, 1);
        due(37, "the work is not sent", x.send(0), 0);
        x.commit();
        due(37, "send of a further head", x.send(0), 1);
        x.open(2);
        x.close(1);
        x.open(1);
        due(37, "there its head is no ancestor", x.send(1), DIRTY);
        due(37, "that stays", x.there(1), 3);
        x.pick(4);
        due(37, "send while a merge is under way", x.send(2), 0);
        due(37, "its head there then", x.there(2), 4);
        sendBack();
    }

    /** A head that has gone back here is no head that can be sent. */
    private static void sendBack() {
        TreeVersions x = oneCommit();
        x.open(1);
        x.put(0, 9, 9, 9, 9);
        x.commit();
        x.send(0);
        x.go(1);
        x.close(0);
        x.sweep();
        x.open(0);
        due(37, "the head there is behind ours", x.send(0), DIRTY);
        due(38, "but can be fetched", x.fetch(0), 2);
    }

    private static void fetch() {
        TreeVersions x = twoBranches();
        due(38, "fetch(0)", x.fetch(0), BAD);
        due(38, "fetch(6)", x.fetch(6), BAD);
        due(38, "fetch(-1)", x.fetch(-1), BAD);
        x.send(1);
        long sent = x.root(3, 0);
        x.close(1);
        x.sweep();
        due(38, "the commit went", x.ancestors(3), BAD);
        due(38, "fetch(1)", x.fetch(1), 3);
        due(38, "the branch came to be", x.head(1), 3);
        due(38, "the commit came back", x.ancestors(3), 3);
        due(38, "with its tables", x.root(3, 0), sent);
        due(38, "the work stays", x.root(NONE, 0), x.root(2, 0));
        x.go(1);
        x.put(1, 1, 1, 1, 1);
        x.commit();
        x.go(0);
        due(38, "the head here is no ancestor", x.fetch(1), DIRTY);
        due(38, "it stays", x.head(1), 4);
        x.send(1);
        x.put(1, 2, 2, 2, 2);
        due(38, "fetch of the same head with a work that is not clean", x.fetch(1), 4);
        x.reset();
        x.merge(1);
        due(38, "fetch of another branch while a merge is under way", x.fetch(1), 4);
        due(38, "it is under way then", x.merging());
    }

    private static void fetchAtHand() {
        TreeVersions x = new TreeVersions();
        x.open(1);
        x.put(0, 1, 1, 1, 1);
        x.commit();
        x.send(0);
        x.go(1);
        x.close(0);
        x.sweep();
        x.open(0);
        x.go(0);
        due(38, "fetch of a branch at hand", x.fetch(0), 1);
        due(38, "the work is that of its head", x.get(0, 1, 0), 1);
        due(38, "it is clean", x.reset(), 0);
        x.put(0, 2, 2, 2, 2);
        due(38, "fetch with a work that is not clean", x.fetch(0), DIRTY);
        x.reset();
        x.pick(1);
        due(38, "fetch while a merge is under way, the work clean", x.fetch(0), BUSY);
        x.reset();
        x.undo(1);
        due(38, "fetch while a merge is under way, the work not clean", x.fetch(0), DIRTY);
    }

    private static void there() {
        TreeVersions x = oneCommit();
        for (int branch = 0; branch < 6; branch++) {
            due(39, "there of " + branch, x.there(branch), BAD);
        }
        x.open(5);
        x.send(5);
        due(39, "there(5)", x.there(5), 1);
        due(39, "there(0)", x.there(0), BAD);
        due(39, "there(6)", x.there(6), BAD);
        due(39, "there(-1)", x.there(-1), BAD);
        x.close(5);
        due(39, "there(5) without the branch here", x.there(5), 1);
        for (int odd : ODD) {
            due(39, "there of " + odd, x.there(odd), BAD);
        }
    }

    private static void kept() {
        TreeVersions x = oneCommit();
        due(40, "kept(0) at first", x.kept(0), 1);
        due(40, "kept(1) at first", x.kept(1), 1);
        x.send(0);
        due(40, "kept(0)", x.kept(0), 2);
        due(40, "kept(1)", x.kept(1), 2);
        x.open(1);
        x.put(1, 1, 10, 20, 30);
        x.put(1, 2, 20, 40, 60);
        x.put(1, 3, 30, 60, 90);
        x.commit();
        due(40, "the same node in another table", x.send(0), 0);
        due(40, "kept(0) then", x.kept(0), 2);
        due(40, "kept(1) then", x.kept(1), 3);
        x.go(1);
        x.close(0);
        x.sweep();
        due(40, "what went here is still there", x.kept(1), 3);
        due(40, "kept(2)", x.kept(2), BAD);
        due(40, "kept(-1)", x.kept(-1), BAD);
        for (int odd : ODD) {
            due(40, "kept of " + odd, x.kept(odd), BAD);
        }
    }
}
