import java.util.Arrays;

/**
 * Tables with versions: rows lie in trees whose shape hangs on the rows alone; commits, branches,
 * differences, merges of three, and a second store to which only what is not there is sent.
 *
 * <p>Only commit() keeps anything new. The work, the tables that a merge brings together and the lists
 * are rows that the constructor makes and every later call uses again.
 */
public final class TreeVersions {
    public static final int NONE = -1, FULL = -2, BUSY = -3, DIRTY = -4, BAD = -5;
    public static final long NOTHING = 1L << 32;

    private static final int TABLES = 3;
    private static final int COLUMNS = 3;
    private static final int BRANCHES = 6;
    private static final int MAX_COMMITS = 60;
    private static final int MAX_ROWS = 200;
    private static final int MAX_FILL = 100;

    /** A row is four ints, and so is an entry of every higher level: one way of cutting serves all levels. */
    private static final int WIDTH = 4;

    private static final int MIN_ENTRIES = 2;
    private static final int MAX_ENTRIES = 10;
    /** 24 bytes, told in ints. */
    private static final int ROLL_REACH = 6;
    private static final int ROLL_FACTOR = 0x9E3779B1;
    private static final long HASH_FACTOR = 0xD6E8FEB86659FD93L;

    /** Nodes of two entries are the most: 100, 50, 25, 13, 7, 4, 2 and 1 of them over 200 rows. */
    private static final int MAX_LEVELS = 8;
    private static final int MAX_NODES = 202;

    private final Table[] work;
    private final TreeBuilder builder;
    private final NodePool pool;
    private final Commit[] commits;
    private int made;
    /** Bit c tells whether commit c is there; commits that went are kept, for fetch() may bring them back. */
    private long present;
    private final int[] heads;
    private int atHand;
    private final Differences differences;
    private final Merge underWay;
    private final OtherStore other;

    public TreeVersions() {
        work = new Table[TABLES];
        for (int t = 0; t < TABLES; t++) {
            work[t] = new Table(new Rows(MAX_ROWS), new Node[MAX_NODES], new int[MAX_LEVELS + 1]);
        }
        builder = new TreeBuilder();
        pool = new NodePool();
        commits = new Commit[MAX_COMMITS];
        heads = new int[BRANCHES];
        Arrays.fill(heads, NONE);
        differences = new Differences();
        underWay = new Merge();
        other = new OtherStore();
        heads[0] = addCommit(NONE, NONE);
        other.takeAll(commits, 1L);
    }

    // ---- the work

    public int put(int t, int key, int c0, int c1, int c2) {
        if (!isTable(t)) {
            return BAD;
        }
        if (underWay.active) {
            return BUSY;
        }
        work[t].stale = true;
        return work[t].rows.setRow(key, c0, c1, c2);
    }

    public int cell(int t, int key, int c, int v) {
        if (!isTable(t) || !isColumn(c)) {
            return BAD;
        }
        if (underWay.active) {
            return BUSY;
        }
        work[t].stale = true;
        return work[t].rows.setColumn(key, c, v) ? 1 : NONE;
    }

    public int drop(int t, int key) {
        if (!isTable(t)) {
            return BAD;
        }
        if (underWay.active) {
            return BUSY;
        }
        work[t].stale = true;
        return work[t].rows.removeRow(key) ? 1 : 0;
    }

    public int fill(int t, int from, int step, int n, int seed) {
        if (!isTable(t) || n < 0 || n > MAX_FILL || step == 0) {
            return BAD;
        }
        if (underWay.active) {
            return BUSY;
        }
        Rows rows = work[t].rows;
        if (rows.count + countNewKeys(rows, from, step, n) > MAX_ROWS) {
            return FULL;
        }
        work[t].stale = true;
        int last = seed;
        for (int i = 0; i < n; i++) {
            int c0 = nextSeed(last);
            int c1 = nextSeed(c0);
            int c2 = nextSeed(c1);
            rows.setRow(from + i * step, c0, c1, c2);
            last = c2;
        }
        return rows.count;
    }

    public long get(int t, int key, int c) {
        return isTable(t) ? work[t].rows.columnOf(key, c) : NOTHING;
    }

    public int size(int t) {
        return isTable(t) ? work[t].rows.count : BAD;
    }

    public long kth(int t, int k) {
        return isTable(t) ? work[t].rows.keyAt(k) : NOTHING;
    }

    public int rank(int t, int key) {
        return isTable(t) ? work[t].rows.placeOf(key) : BAD;
    }

    // ---- trees

    public long root(int c, int t) {
        Table table = treeOf(c, t);
        if (table == null) {
            return 0;
        }
        Node top = table.nodeAt(table.levels - 1, 0);
        return top == null ? 0 : top.hash;
    }

    public int height(int c, int t) {
        Table table = treeOf(c, t);
        return table == null ? BAD : table.levels;
    }

    public int nodes(int c, int t, int level) {
        Table table = treeOf(c, t);
        return table == null || !table.hasLevel(level) ? BAD : table.nodesOn(level);
    }

    public long node(int c, int t, int level, int i, int what) {
        Table table = treeOf(c, t);
        Node found = table == null ? null : table.nodeAt(level, i);
        if (found == null) {
            return 0;
        }
        switch (what) {
            case 0:
                return found.entries;
            case 1:
                return found.below;
            case 2:
                return found.hash;
            case 3:
                return found.lastKey();
            default:
                return 0;
        }
    }

    public int shared(int c, int d, int t) {
        Table one = treeOf(c, t);
        Table two = treeOf(d, t);
        if (one == null || two == null) {
            return BAD;
        }
        int count = 0;
        for (int i = 0; i < one.nodesInAll(); i++) {
            if (two.hasSame(one.nodes[i])) {
                count++;
            }
        }
        return count;
    }

    public int stored() {
        pool.beginCount();
        int count = 0;
        for (int c = 0; c < made; c++) {
            Commit commit = commitAt(c);
            for (int t = 0; commit != null && t < TABLES; t++) {
                count += pool.countUnseen(commit.tables[t]);
            }
        }
        for (int t = 0; t < TABLES; t++) {
            count += countUnseenOfWork(t);
        }
        return count;
    }

    // ---- branches and commits

    public int open(int branch) {
        if (!isBranch(branch)) {
            return BAD;
        }
        if (underWay.active) {
            return BUSY;
        }
        if (isHere(branch)) {
            return NONE;
        }
        heads[branch] = heads[atHand];
        return heads[branch];
    }

    public int go(int branch) {
        if (!isHere(branch)) {
            return BAD;
        }
        if (underWay.active) {
            return BUSY;
        }
        if (!isClean()) {
            return DIRTY;
        }
        atHand = branch;
        loadWork();
        return heads[branch];
    }

    public int close(int branch) {
        if (!isHere(branch) || branch == atHand) {
            return BAD;
        }
        int last = heads[branch];
        heads[branch] = NONE;
        return last;
    }

    public int head(int branch) {
        return isHere(branch) ? heads[branch] : BAD;
    }

    public int commit() {
        if (underWay.active && underWay.openCount > 0) {
            return BUSY;
        }
        if (!underWay.active && isClean()) {
            return NONE;
        }
        if (made >= MAX_COMMITS) {
            return FULL;
        }
        heads[atHand] = addCommit(heads[atHand], underWay.active ? underWay.secondParent : NONE);
        underWay.end();
        return heads[atHand];
    }

    public int parent(int c, int i) {
        Commit commit = commitAt(c);
        if (commit == null) {
            return BAD;
        }
        switch (i) {
            case 0:
                return commit.firstParent;
            case 1:
                return commit.secondParent;
            default:
                return NONE;
        }
    }

    public int ancestors(int c) {
        Commit commit = commitAt(c);
        return commit == null ? BAD : Long.bitCount(commit.line);
    }

    public int base(int c, int d) {
        Commit one = commitAt(c);
        Commit two = commitAt(d);
        return one == null || two == null ? BAD : greatestOf(one.line & two.line);
    }

    public int reset() {
        boolean changes = underWay.active || !isClean();
        underWay.end();
        loadWork();
        return changes ? 1 : 0;
    }

    public int sweep() {
        if (underWay.active) {
            return BUSY;
        }
        long needed = 0;
        for (int branch = 0; branch < BRANCHES; branch++) {
            needed |= lineOf(heads[branch]);
        }
        int went = Long.bitCount(present & ~needed);
        present &= needed;
        return went;
    }

    // ---- what differs

    public int diff(int c, int d, int t) {
        Table from = tableOf(c, t);
        Table to = tableOf(d, t);
        if (from == null || to == null) {
            return BAD;
        }
        differences.list(from.rows, to.rows);
        return differences.count;
    }

    public long diffKey(int i) {
        return differences.has(i) ? differences.keys[i] : NOTHING;
    }

    public int diffKind(int i) {
        return differences.has(i) ? differences.kinds[i] : 0;
    }

    // ---- merges

    public int merge(int branch) {
        if (!isHere(branch)) {
            return BAD;
        }
        if (underWay.active) {
            return BUSY;
        }
        if (!isClean()) {
            return DIRTY;
        }
        int ours = heads[atHand];
        int theirs = heads[branch];
        if (isAncestor(theirs, ours)) {
            return 0;
        }
        if (isAncestor(ours, theirs)) {
            heads[atHand] = theirs;
            loadWork();
            return 1;
        }
        return beginMerge(greatestOf(lineOf(ours) & lineOf(theirs)), theirs, theirs);
    }

    public int pick(int c) {
        int refusal = refusalOfPick(c);
        return refusal != 0 ? refusal : beginMerge(parent(c, 0), c, NONE);
    }

    public int undo(int c) {
        int refusal = refusalOfPick(c);
        return refusal != 0 ? refusal : beginMerge(c, parent(c, 0), NONE);
    }

    public boolean merging() {
        return underWay.active;
    }

    public int conflicts(int which) {
        switch (which) {
            case 0:
                return underWay.openCount;
            case 1:
                return underWay.count;
            default:
                return BAD;
        }
    }

    public long conflict(int i, int what) {
        if (!underWay.has(i)) {
            return NOTHING;
        }
        switch (what) {
            case 0:
                return underWay.tables[i];
            case 1:
                return underWay.keys[i];
            case 2:
                return underWay.isOpen[i] ? 1 : 0;
            default:
                return NOTHING;
        }
    }

    public long version(int i, int which, int c) {
        Rows rows = underWay.rowsOf(i, which);
        return rows == null ? NOTHING : rows.columnOf(underWay.keys[i], c);
    }

    public int settle(int i, int which) {
        Rows from = underWay.rowsOf(i, which);
        if (from == null) {
            return BAD;
        }
        Table table = work[underWay.tables[i]];
        if (!table.rows.takeRow(from, underWay.keys[i])) {
            return FULL;
        }
        table.stale = true;
        return underWay.closeConflict(i) ? 1 : 0;
    }

    // ---- the other store

    public int send(int branch) {
        if (!isHere(branch)) {
            return BAD;
        }
        int last = heads[branch];
        if (other.hasBranch(branch) && !isAncestor(other.heads[branch], last)) {
            return DIRTY;
        }
        other.heads[branch] = last;
        return other.takeAll(commits, lineOf(last));
    }

    public int fetch(int branch) {
        if (!other.hasBranch(branch)) {
            return BAD;
        }
        int last = other.heads[branch];
        boolean isAtHand = branch == atHand;
        if (isHere(branch) && !isAncestor(heads[branch], last)) {
            return DIRTY;
        }
        if (isAtHand && !isClean()) {
            return DIRTY;
        }
        if (isAtHand && underWay.active) {
            return BUSY;
        }
        present |= lineOf(last);
        heads[branch] = last;
        if (isAtHand) {
            loadWork();
        }
        return last;
    }

    public int there(int branch) {
        return other.hasBranch(branch) ? other.heads[branch] : BAD;
    }

    public int kept(int which) {
        switch (which) {
            case 0:
                return other.nodeCount;
            case 1:
                return Long.bitCount(other.line);
            default:
                return BAD;
        }
    }

    // ---- what the calls have in common

    private static boolean isTable(int t) {
        return t >= 0 && t < TABLES;
    }

    private static boolean isColumn(int c) {
        return c >= 0 && c < COLUMNS;
    }

    private static boolean isBranch(int branch) {
        return branch >= 0 && branch < BRANCHES;
    }

    private boolean isHere(int branch) {
        return isBranch(branch) && heads[branch] != NONE;
    }

    private static int nextSeed(int seed) {
        return seed * 1664525 + 1013904223;
    }

    /** Once i * step has wrapped round to 0 the same keys come again, so no further one is new. */
    private static int countNewKeys(Rows rows, int from, int step, int n) {
        int count = 0;
        for (int i = 0; i < n && (i == 0 || i * step != 0); i++) {
            if (rows.find(from + i * step) == NONE) {
                count++;
            }
        }
        return count;
    }

    private Commit commitAt(int c) {
        if (c < 0 || c >= made || (present >>> c & 1) == 0) {
            return null;
        }
        return commits[c];
    }

    /** The ancestors of a commit, a bit each, whether or not it is there; none for NONE. */
    private long lineOf(int c) {
        if (c < 0 || c >= made || commits[c] == null) {
            return 0;
        }
        return commits[c].line;
    }

    private boolean isAncestor(int c, int ofCommit) {
        return c >= 0 && c < MAX_COMMITS && (lineOf(ofCommit) >>> c & 1) != 0;
    }

    /** Ancestors have lesser numbers, so the greatest common ancestor is that of no other one: the base. */
    private int greatestOf(long line) {
        for (int c = made - 1; c >= 0; c--) {
            if ((line >>> c & 1) != 0) {
                return c;
            }
        }
        return 0;
    }

    private Table tableOf(int c, int t) {
        if (!isTable(t)) {
            return null;
        }
        if (c == NONE) {
            return work[t];
        }
        Commit commit = commitAt(c);
        return commit == null ? null : commit.tables[t];
    }

    /** As tableOf(), and the nodes are those of the rows. */
    private Table treeOf(int c, int t) {
        Table table = tableOf(c, t);
        if (table != null && table.stale) {
            builder.build(table);
        }
        return table;
    }

    /** Nodes of the work are in no pool; its three tables may still have the same ones. */
    private int countUnseenOfWork(int t) {
        Table table = treeOf(NONE, t);
        int count = 0;
        for (int i = 0; table != null && i < table.nodesInAll(); i++) {
            Node found = pool.find(table.nodes[i]);
            boolean unseen = found != null ? pool.see(found) : !isInWorkBefore(t, table.nodes[i]);
            if (unseen) {
                count++;
            }
        }
        return count;
    }

    private boolean isInWorkBefore(int t, Node like) {
        for (int u = 0; u < t; u++) {
            if (work[u].hasSame(like)) {
                return true;
            }
        }
        return false;
    }

    /** The branch at hand always has a head that is there; commit 0 stands in so that this is never null. */
    private Commit headAtHand() {
        Commit last = commitAt(heads[atHand]);
        return last == null ? commits[0] : last;
    }

    private boolean isClean() {
        Commit last = headAtHand();
        for (int t = 0; t < TABLES; t++) {
            if (!work[t].rows.isSame(last.tables[t].rows)) {
                return false;
            }
        }
        return true;
    }

    private void loadWork() {
        Commit last = headAtHand();
        for (int t = 0; t < TABLES; t++) {
            work[t].become(last.tables[t].rows);
        }
    }

    /** The work as the next commit; the caller has seen that there is a number left. */
    private int addCommit(int firstParent, int secondParent) {
        int number = made;
        long line = 1L << number | lineOf(firstParent) | lineOf(secondParent);
        Commit commit = new Commit(firstParent, secondParent, line);
        for (int t = 0; t < TABLES; t++) {
            Table before = tableBefore(firstParent, t);
            boolean unchanged = before != null && before.rows.isSame(work[t].rows);
            commit.tables[t] = unchanged ? before : pool.keepTable(treeOf(NONE, t));
        }
        commits[number] = commit;
        made = number + 1;
        present |= 1L << number;
        return number;
    }

    /** NONE is no parent here, while tableOf() takes it for the work. */
    private Table tableBefore(int firstParent, int t) {
        return firstParent == NONE ? null : tableOf(firstParent, t);
    }

    private int refusalOfPick(int c) {
        Commit commit = commitAt(c);
        if (commit == null || commit.firstParent == NONE || commit.secondParent != NONE) {
            return BAD;
        }
        if (underWay.active) {
            return BUSY;
        }
        return isClean() ? 0 : DIRTY;
    }

    /** Parents, bases and heads are always there, so no call is refused here as BAD. */
    private int beginMerge(int oldNumber, int theirNumber, int secondParent) {
        Commit old = commitAt(oldNumber);
        Commit theirs = commitAt(theirNumber);
        if (old == null || theirs == null) {
            return BAD;
        }
        if (!underWay.bringTogether(old, headAtHand(), theirs)) {
            underWay.end();
            return FULL;
        }
        underWay.active = true;
        underWay.secondParent = secondParent;
        for (int t = 0; t < TABLES; t++) {
            work[t].become(underWay.result[t]);
        }
        return 2 + underWay.count;
    }

    /** The rows of one table in order of their keys, four ints each: the key and columns 0, 1, 2. */
    private static final class Rows {
        final int[] words;
        int count;

        Rows(int capacity) {
            words = new int[WIDTH * Math.max(0, capacity)];
        }

        long keyAt(int i) {
            return i >= 0 && i < count ? words[WIDTH * i] : NOTHING;
        }

        /** How many keys are less than a key, which is where its row lies or would come. */
        int placeOf(int key) {
            int place = 0;
            for (int step = 128; step > 0; step >>= 1) {
                if (place + step <= count && words[WIDTH * (place + step - 1)] < key) {
                    place += step;
                }
            }
            return place;
        }

        int find(int key) {
            int place = placeOf(key);
            return keyAt(place) == key ? place : NONE;
        }

        long columnOf(int key, int c) {
            int place = find(key);
            return place == NONE || !isColumn(c) ? NOTHING : words[WIDTH * place + 1 + c];
        }

        boolean setColumn(int key, int c, int v) {
            int place = find(key);
            if (place == NONE || !isColumn(c)) {
                return false;
            }
            words[WIDTH * place + 1 + c] = v;
            return true;
        }

        /** 1 if the row is new, 0 if it was there, FULL if there is no room for it. */
        int setRow(int key, int c0, int c1, int c2) {
            int place = placeOf(key);
            boolean isNew = keyAt(place) != key;
            if (isNew && !makeRoom(place)) {
                return FULL;
            }
            int w = WIDTH * place;
            words[w] = key;
            words[w + 1] = c0;
            words[w + 2] = c1;
            words[w + 3] = c2;
            return isNew ? 1 : 0;
        }

        boolean removeRow(int key) {
            int place = find(key);
            if (place == NONE) {
                return false;
            }
            int w = WIDTH * place;
            System.arraycopy(words, w + WIDTH, words, w, WIDTH * (count - place - 1));
            count--;
            return true;
        }

        /** A key's row becomes the one that other rows have of it, or none; false if there is no room. */
        boolean takeRow(Rows from, int key) {
            int place = from.find(key);
            if (place == NONE) {
                removeRow(key);
                return true;
            }
            int w = WIDTH * place;
            return setRow(key, from.words[w + 1], from.words[w + 2], from.words[w + 3]) != FULL;
        }

        /** Adds a row behind the last one, nothing for NONE; false if there is no room. */
        boolean append(Rows from, int place) {
            if (place < 0 || place >= from.count) {
                return true;
            }
            if (WIDTH * (count + 1) > words.length) {
                return false;
            }
            System.arraycopy(from.words, WIDTH * place, words, WIDTH * count, WIDTH);
            count++;
            return true;
        }

        void become(Rows from) {
            int length = WIDTH * from.count;
            if (length <= words.length) {
                System.arraycopy(from.words, 0, words, 0, length);
                count = from.count;
            }
        }

        boolean isSame(Rows from) {
            return count == from.count && matches(0, from, 0, count);
        }

        /** Whether one place's row is the other's; NONE stands for no row. */
        boolean isSameRow(int place, Rows from, int fromPlace) {
            if (place == NONE || fromPlace == NONE) {
                return place == fromPlace;
            }
            return matches(place, from, fromPlace, 1);
        }

        boolean matches(int place, Rows from, int fromPlace, int n) {
            if (place < 0 || fromPlace < 0 || place + n > count || fromPlace + n > from.count) {
                return false;
            }
            int shift = WIDTH * (fromPlace - place);
            for (int w = WIDTH * place; w < WIDTH * (place + n); w++) {
                if (words[w] != from.words[w + shift]) {
                    return false;
                }
            }
            return true;
        }

        private boolean makeRoom(int place) {
            if (WIDTH * (count + 1) > words.length) {
                return false;
            }
            int w = WIDTH * place;
            System.arraycopy(words, w, words, w + WIDTH, WIDTH * (count - place));
            count++;
            return true;
        }
    }

    /** A node of a tree: some rows, on a level. In the pool there is one alone of the same ones. */
    private static final class Node {
        Rows rows;
        int level;
        int firstRow;
        int below;
        int entries;
        long hash;
        Node next;
        int seenIn;
        boolean isThere;

        void set(Rows itsRows, int itsLevel, int first, int rowCount, int entryCount, long itsHash) {
            rows = itsRows;
            level = itsLevel;
            firstRow = first;
            below = rowCount;
            entries = entryCount;
            hash = itsHash;
        }

        long lastKey() {
            return rows == null ? NOTHING : rows.keyAt(firstRow + below - 1);
        }

        /** The hash alone might err, so the rows decide. */
        boolean isSame(Node like) {
            if (hash != like.hash || level != like.level || below != like.below) {
                return false;
            }
            return rows != null && like.rows != null && rows.matches(firstRow, like.rows, like.firstRow, below);
        }
    }

    /** Rows with their tree: the nodes level by level, each level from the left to the right. */
    private static final class Table {
        final Rows rows;
        final Node[] nodes;
        /** Where a level's nodes begin; behind the last level, where they end. */
        final int[] starts;
        int levels;
        /** Whether the rows may be other ones than those that the nodes were made of. */
        boolean stale;
        int seenIn;

        Table(Rows itsRows, Node[] itsNodes, int[] itsStarts) {
            rows = itsRows;
            nodes = itsNodes;
            starts = itsStarts;
            stale = true;
        }

        void become(Rows from) {
            rows.become(from);
            stale = true;
        }

        boolean hasLevel(int level) {
            return level >= 0 && level < levels;
        }

        int nodesOn(int level) {
            return hasLevel(level) ? starts[level + 1] - starts[level] : 0;
        }

        int nodesInAll() {
            return starts[levels];
        }

        Node nodeAt(int level, int i) {
            return i >= 0 && i < nodesOn(level) ? nodes[starts[level] + i] : null;
        }

        boolean hasSame(Node like) {
            for (int i = 0; i < nodesOn(like.level); i++) {
                if (nodes[starts[like.level] + i].isSame(like)) {
                    return true;
                }
            }
            return false;
        }

        void clearNodes() {
            levels = 0;
            starts[0] = 0;
        }

        int beginLevel() {
            if (levels < MAX_LEVELS) {
                starts[levels + 1] = starts[levels];
                levels++;
            }
            return levels - 1;
        }

        /** A node more on the last level; nodes that an earlier tree used are used again. */
        void addNode(int firstRow, int below, int entries, long hash) {
            int at = starts[levels];
            if (at >= nodes.length) {
                return;
            }
            if (nodes[at] == null) {
                nodes[at] = new Node();
            }
            nodes[at].set(rows, levels - 1, firstRow, below, entries, hash);
            starts[levels] = at + 1;
        }
    }

    /** Cuts rows into the nodes of a tree. */
    private static final class TreeBuilder {
        /** The entries of the level that is being cut, above that of the rows. */
        private final int[] upper = new int[WIDTH * (MAX_ROWS / MIN_ENTRIES)];

        void build(Table table) {
            table.clearNodes();
            cutLevel(table, table.rows.words, table.rows.count);
            for (int level = 1; level < MAX_LEVELS && table.nodesOn(level - 1) > 1; level++) {
                int n = writeEntries(table, level - 1);
                cutLevel(table, upper, n);
            }
            table.stale = false;
        }

        private int writeEntries(Table table, int level) {
            int n = Math.min(table.nodesOn(level), upper.length / WIDTH);
            for (int i = 0; i < n; i++) {
                Node child = table.nodeAt(level, i);
                if (child == null) {
                    return i;
                }
                upper[WIDTH * i] = (int) child.lastKey();
                upper[WIDTH * i + 1] = (int) (child.hash >>> 32);
                upper[WIDTH * i + 2] = (int) child.hash;
                upper[WIDTH * i + 3] = child.below;
            }
            return n;
        }

        private static void cutLevel(Table table, int[] words, int n) {
            int level = table.beginLevel();
            if (n == 0) {
                table.addNode(0, 0, 0, hashOf(level, words, 0, 0));
            }
            int from = 0;
            int firstRow = 0;
            int roll = 0;
            for (int e = 0; e < n; e++) {
                roll = rollEntry(roll, words, from, e);
                if (e == n - 1 || endsNode(e - from + 1, roll)) {
                    int below = rowsBelow(level, words, from, e + 1);
                    table.addNode(firstRow, below, e - from + 1, hashOf(level, words, from, e + 1));
                    firstRow += below;
                    from = e + 1;
                    roll = 0;
                }
            }
        }

        private static boolean endsNode(int entries, int roll) {
            return entries >= MAX_ENTRIES || entries >= MIN_ENTRIES && (roll & 3) == 0;
        }

        private static int rowsBelow(int level, int[] words, int from, int to) {
            if (level == 0) {
                return to - from;
            }
            int sum = 0;
            for (int e = from; e < to; e++) {
                sum += words[WIDTH * e + 3];
            }
            return sum;
        }

        private static int rollEntry(int roll, int[] words, int from, int e) {
            int rolled = roll;
            for (int w = WIDTH * e; w < WIDTH * (e + 1); w++) {
                int word = words[w];
                boolean isFar = w - WIDTH * from >= ROLL_REACH;
                int before = isFar ? words[w - ROLL_REACH] : 0;
                for (int shift = 24; shift >= 0; shift -= 8) {
                    rolled = turned(rolled, 1) ^ spread(word >>> shift & 255);
                    if (isFar) {
                        rolled ^= turned(spread(before >>> shift & 255), 24);
                    }
                }
            }
            return rolled;
        }

        private static int spread(int b) {
            return (b + 1) * ROLL_FACTOR;
        }

        private static int turned(int x, int bits) {
            return x << bits | x >>> 32 - bits;
        }

        private static long hashOf(int level, int[] words, int from, int to) {
            long h = level + 1;
            for (int w = WIDTH * from; w < WIDTH * to; w++) {
                int word = words[w];
                for (int shift = 24; shift >= 0; shift -= 8) {
                    h ^= word >>> shift & 255;
                    h = (h << 29 | h >>> 35) * HASH_FACTOR;
                }
            }
            return h;
        }
    }

    /** The nodes of all commits that ever were, of the same ones one; found by their hashes. */
    private static final class NodePool {
        private static final int BUCKETS = 4096;

        private final Node[] buckets = new Node[BUCKETS];
        /** Nodes and tables that bear the number of this count have been counted in it. */
        private int pass;

        Node find(Node like) {
            for (Node found = buckets[bucketOf(like)]; found != null; found = found.next) {
                if (found.isSame(like)) {
                    return found;
                }
            }
            return null;
        }

        /** A table that stays as the given one is now. */
        Table keepTable(Table table) {
            Rows rows = new Rows(table.rows.count);
            rows.become(table.rows);
            Node[] nodes = new Node[table.nodesInAll()];
            for (int i = 0; i < nodes.length; i++) {
                Node found = find(table.nodes[i]);
                nodes[i] = found != null ? found : addNode(table.nodes[i], rows);
            }
            Table copy = new Table(rows, nodes, Arrays.copyOf(table.starts, table.levels + 1));
            copy.levels = table.levels;
            copy.stale = false;
            return copy;
        }

        void beginCount() {
            pass++;
        }

        boolean see(Node seen) {
            boolean first = seen.seenIn != pass;
            seen.seenIn = pass;
            return first;
        }

        int countUnseen(Table table) {
            if (table.seenIn == pass) {
                return 0;
            }
            table.seenIn = pass;
            int count = 0;
            for (int i = 0; i < table.nodesInAll(); i++) {
                if (see(table.nodes[i])) {
                    count++;
                }
            }
            return count;
        }

        private Node addNode(Node like, Rows rows) {
            Node added = new Node();
            added.set(rows, like.level, like.firstRow, like.below, like.entries, like.hash);
            int bucket = bucketOf(added);
            added.next = buckets[bucket];
            buckets[bucket] = added;
            return added;
        }

        private static int bucketOf(Node like) {
            return (int) (like.hash ^ like.hash >>> 32) & BUCKETS - 1;
        }
    }

    private static final class Commit {
        final int firstParent;
        final int secondParent;
        /** The ancestors, a bit each. */
        final long line;
        final Table[] tables = new Table[TABLES];

        Commit(int first, int second, long itsLine) {
            firstParent = first;
            secondParent = second;
            line = itsLine;
        }
    }

    /** The list of the last diff(). */
    private static final class Differences {
        final int[] keys = new int[2 * MAX_ROWS];
        final int[] kinds = new int[2 * MAX_ROWS];
        int count;

        boolean has(int i) {
            return i >= 0 && i < count;
        }

        void list(Rows from, Rows to) {
            count = 0;
            int i = 0;
            int j = 0;
            for (int turn = 0; turn < keys.length; turn++) {
                long key = Math.min(from.keyAt(i), to.keyAt(j));
                if (key == NOTHING) {
                    return;
                }
                boolean was = from.keyAt(i) == key;
                boolean is = to.keyAt(j) == key;
                add((int) key, was && is ? kindOfChange(from, i, to, j) : is ? 1 : 2);
                i += was ? 1 : 0;
                j += is ? 1 : 0;
            }
        }

        private void add(int key, int kind) {
            if (kind != 0 && count < keys.length) {
                keys[count] = key;
                kinds[count] = kind;
                count++;
            }
        }

        private static int kindOfChange(Rows from, int i, Rows to, int j) {
            int bits = 0;
            for (int c = 0; c < COLUMNS; c++) {
                if (from.words[WIDTH * i + 1 + c] != to.words[WIDTH * j + 1 + c]) {
                    bits |= 1 << c;
                }
            }
            return bits == 0 ? 0 : 8 + bits;
        }
    }

    /** The merge that is under way, if one is: its three versions, what they come to, its conflicts. */
    private static final class Merge {
        private static final int OLD = 0, OURS = 1, THEIRS = 2, VERSIONS = 3;
        /** Of a conflict's key at least two of three versions have a row. */
        private static final int MAX_CONFLICTS = TABLES * VERSIONS * MAX_ROWS / 2;

        boolean active;
        int secondParent;
        final Commit[] versions = new Commit[VERSIONS];
        final Rows[] result = new Rows[TABLES];
        /** Where the versions have the row of the key in question; NONE where they have none. */
        private final int[] places = new int[VERSIONS];
        /** The one row that mixColumns() makes. */
        private final Rows mixed = new Rows(1);
        final int[] tables = new int[MAX_CONFLICTS];
        final int[] keys = new int[MAX_CONFLICTS];
        final boolean[] isOpen = new boolean[MAX_CONFLICTS];
        int count;
        int openCount;

        Merge() {
            mixed.count = 1;
            for (int t = 0; t < TABLES; t++) {
                result[t] = new Rows(MAX_ROWS);
            }
        }

        void end() {
            active = false;
            count = 0;
            openCount = 0;
        }

        boolean has(int i) {
            return active && i >= 0 && i < count;
        }

        /** The rows of conflict i's table in a version; null when there is none such. */
        Rows rowsOf(int i, int which) {
            if (!has(i) || which < 0 || which >= VERSIONS) {
                return null;
            }
            return versions[which].tables[tables[i]].rows;
        }

        boolean closeConflict(int i) {
            if (!has(i) || !isOpen[i]) {
                return false;
            }
            isOpen[i] = false;
            openCount--;
            return true;
        }

        /** False if a table would have too many rows. */
        boolean bringTogether(Commit old, Commit ours, Commit theirs) {
            versions[OLD] = old;
            versions[OURS] = ours;
            versions[THEIRS] = theirs;
            count = 0;
            openCount = 0;
            for (int t = 0; t < TABLES; t++) {
                if (!bringTable(t, old.tables[t].rows, ours.tables[t].rows, theirs.tables[t].rows)) {
                    return false;
                }
            }
            return true;
        }

        private boolean bringTable(int t, Rows old, Rows ours, Rows theirs) {
            result[t].count = 0;
            int i = 0;
            int j = 0;
            int k = 0;
            for (int turn = 0; turn < VERSIONS * MAX_ROWS; turn++) {
                long key = Math.min(old.keyAt(i), Math.min(ours.keyAt(j), theirs.keyAt(k)));
                if (key == NOTHING) {
                    return true;
                }
                places[OLD] = old.keyAt(i) == key ? i : NONE;
                places[OURS] = ours.keyAt(j) == key ? j : NONE;
                places[THEIRS] = theirs.keyAt(k) == key ? k : NONE;
                if (!bringKey(t, (int) key, old, ours, theirs)) {
                    return false;
                }
                i += places[OLD] == NONE ? 0 : 1;
                j += places[OURS] == NONE ? 0 : 1;
                k += places[THEIRS] == NONE ? 0 : 1;
            }
            return true;
        }

        private boolean bringKey(int t, int key, Rows old, Rows ours, Rows theirs) {
            int i = places[OLD];
            int j = places[OURS];
            int k = places[THEIRS];
            if (ours.isSameRow(j, theirs, k)) {
                return result[t].append(ours, j);
            }
            if (old.isSameRow(i, ours, j)) {
                return result[t].append(theirs, k);
            }
            if (old.isSameRow(i, theirs, k)) {
                return result[t].append(ours, j);
            }
            boolean inAll = i != NONE && j != NONE && k != NONE;
            if (inAll && mixColumns(old, ours, theirs)) {
                mixed.words[0] = key;
                return result[t].append(mixed, 0);
            }
            addConflict(t, key);
            return result[t].append(ours, j);
        }

        /** False if in some column all three differ. */
        private boolean mixColumns(Rows old, Rows ours, Rows theirs) {
            for (int c = 1; c <= COLUMNS; c++) {
                int was = old.words[WIDTH * places[OLD] + c];
                int our = ours.words[WIDTH * places[OURS] + c];
                int their = theirs.words[WIDTH * places[THEIRS] + c];
                if (our != their && was != our && was != their) {
                    return false;
                }
                mixed.words[c] = was == our ? their : our;
            }
            return true;
        }

        private void addConflict(int t, int key) {
            if (count < MAX_CONFLICTS) {
                tables[count] = t;
                keys[count] = key;
                isOpen[count] = true;
                count++;
                openCount++;
            }
        }
    }

    /** The other store: it shares the commits and nodes of the pool, and knows which of them it has. */
    private static final class OtherStore {
        final int[] heads = new int[BRANCHES];
        /** Bit c tells whether commit c has come. */
        long line;
        int nodeCount;

        OtherStore() {
            Arrays.fill(heads, NONE);
        }

        boolean hasBranch(int branch) {
            return isBranch(branch) && heads[branch] != NONE;
        }

        /** Takes the commits whose bits are set, and answers how many nodes were not there. */
        int takeAll(Commit[] commits, long wanted) {
            int came = 0;
            for (int c = 0; c < commits.length; c++) {
                boolean isNew = ((wanted & ~line) >>> c & 1) != 0;
                for (int t = 0; isNew && commits[c] != null && t < TABLES; t++) {
                    came += takeNodes(commits[c].tables[t]);
                }
            }
            line |= wanted;
            nodeCount += came;
            return came;
        }

        private static int takeNodes(Table table) {
            int came = 0;
            for (int i = 0; i < table.nodesInAll(); i++) {
                if (!table.nodes[i].isThere) {
                    table.nodes[i].isThere = true;
                    came++;
                }
            }
            return came;
        }
    }
}
