/**
 * The boundary cases of the promises 26 to 36, what differs and merges, and of the terms that they rest on.
 */
public final class MergeBoundariesTest {
    private static final int MIN = Integer.MIN_VALUE;
    private static final int MAX = Integer.MAX_VALUE;
    private static final int[] NO_TABLE = {-1, 3, MIN, MAX};
    private static final int[] NO_BRANCH = {-1, 6, MIN, MAX};
    /** While 0 .. 3 alone are there. 64 would be 0 to a shift that only counts its lowest bits. */
    private static final int[] NO_COMMIT = {-2, 4, 59, 60, 64, 67, MIN, MAX};

    /** Conflicts at both ends of what a key can be, in tables 0 and 2: six of them. */
    private static final String SIX_CONFLICTS = bothPut("""
        put(2, MAX, #, 0, 0) = 1
        put(2, MIN, #, 0, 0) = 1
        put(0, 0, #, 0, 0) = 1
        put(0, MAX, #, 0, 0) = 1
        put(0, -1, #, 0, 0) = 1
        put(0, MIN, #, 0, 0) = 1
        """) + "merge(1) = 8\n";

    /**
     * As many conflicts as there can be: in each table OLD has the keys 0 .. 199, OURS 0 .. 99 and 200 .. 299,
     * THEIRS 100 .. 299, all of them with other columns.
     */
    private static final String MOST_CONFLICTS = "open(1) = 0\n"
            + Script.range("fill(#, 0, 1, 100, 1) = 100\nfill(#, 100, 1, 100, 2) = 200", 0, 2) + "commit() = 1\n"
            + Script.range("drop(0, #) = 1\ndrop(1, #) = 1\ndrop(2, #) = 1", 0, 99)
            + Script.range("fill(#, 100, 1, 100, 3) = 100\nfill(#, 200, 1, 100, 4) = 200", 0, 2)
            + "commit() = 2\ngo(1) = 0\n"
            + Script.range("fill(#, 0, 1, 100, 5) = 100\nfill(#, 200, 1, 100, 6) = 200", 0, 2)
            + "commit() = 3\npick(2) = 902\n";

    /** The table has 200 rows and not key 3, of which OLD and THEIRS have a row. */
    private static final String FULL_WITH_CONFLICTS = Begin.full(0) + """
        commit() = 1
        open(1) = 1
        drop(0, 3) = 1
        drop(0, 4) = 1
        put(0, 500, 1, 1, 1) = 1
        put(0, 501, 1, 1, 1) = 1
        commit() = 2
        go(1) = 1
        cell(0, 3, 0, 3) = 1
        cell(0, 4, 0, 4) = 1
        cell(0, 5, 0, 5) = 1
        commit() = 3
        go(0) = 2
        """;

    private static final Sentences DOCUMENT = new Sentences("MergeBoundariesTest");

    public static void main(String[] args) {
        diff();
        diffList();
        diffKey();
        diffKind();
        threeVersions();
        threeVersionsByColumn();
        conflict();
        merge();
        mergeRefused();
        mergeFull();
        pick();
        pickRefused();
        undo();
        merging();
        conflicts();
        mostConflicts();
        version();
        settle();
        settleFull();
        DOCUMENT.haveAsked("diff", "0", "400", "BAD");
        DOCUMENT.haveAsked("diffKey", "NOTHING");
        DOCUMENT.haveAsked("diffKind", "0", "1", "2", "9", "15");
        DOCUMENT.haveAsked("merge", "0", "1", "2", "BAD", "BUSY", "DIRTY", "FULL");
        DOCUMENT.haveAsked("pick", "2", "BAD", "BUSY", "DIRTY", "FULL");
        DOCUMENT.haveAsked("undo", "2", "BAD", "BUSY", "DIRTY", "FULL");
        DOCUMENT.haveAsked("merging", "true", "false");
        DOCUMENT.haveAsked("conflicts", "0", "900", "BAD");
        DOCUMENT.haveAsked("conflict", "NOTHING");
        DOCUMENT.haveAsked("version", "NOTHING");
        DOCUMENT.haveAsked("settle", "1", "0", "BAD", "FULL");
        DOCUMENT.end();
    }

    /** Both branches make the same calls, but that '#' is 1 on branch 0 and 2 on branch 1. Branch 0 is at hand. */
    private static String bothPut(String calls) {
        return "open(1) = 0\n" + Script.each(calls, 1) + "commit() = 1\ngo(1) = 0\n" + Script.each(calls, 2)
                + "commit() = 2\ngo(0) = 1\n";
    }

    /** Commit 1, then 2 on branch 0, which is at hand, and 3 on branch 1. */
    private static String three(String old, String ours, String theirs) {
        return old + "put(2, 99, 0, 0, 0) = 1\ncommit() = 1\nopen(1) = 1\n"
                + ours + "put(2, 99, 1, 0, 0) = 0\ncommit() = 2\ngo(1) = 1\n"
                + theirs + "put(2, 99, 0, 1, 0) = 0\ncommit() = 3\ngo(0) = 2\n";
    }

    private static void diff() {
        DOCUMENT.holds(26, "from commit c (NONE: the work) to commit d (NONE: the work)", Begin.TWO_BRANCHES + """
            diff(NONE, NONE, 0) = 0
            diff(2, NONE, 0) = 0
            diff(0, 1, 0) = 3
            diffKind(0) = 1
            diff(1, 0, 0) = 3
            diffKind(0) = 2
            drop(0, 1) = 1
            diff(2, NONE, 0) = 1
            diffKind(0) = 2
            diff(NONE, 2, 0) = 1
            diffKind(0) = 1
            diff(0, NONE, 0) = 2
            diff(NONE, NONE, 0) = 0
            """);
        DOCUMENT.holds(26, "is listed by keys in order: how many keys.", """
            put(1, 0, 1, 1, 1) = 1
            put(1, MAX, 1, 1, 1) = 1
            put(1, -1, 1, 1, 1) = 1
            put(1, MIN, 1, 1, 1) = 1
            diff(0, NONE, 1) = 4
            diffKey(0) = MIN
            diffKey(1) = -1
            diffKey(2) = 0
            diffKey(3) = MAX
            diff(0, NONE, 0) = 0
            diffKey(0) = NOTHING
            """);
        DOCUMENT.holds(26, "how many keys: all of two full tables", "open(1) = 0\n" + Begin.full(0) + """
            commit() = 1
            go(1) = 0
            fill(0, 100, -2, 100, 1) = 100
            fill(0, 1000, 1, 100, 1) = 200
            commit() = 2
            diff(1, 2, 0) = 349
            fill(0, 1100, 1, 1, 1) = FULL
            diffKey(348) = 1099
            diffKey(349) = NOTHING
            """);
        DOCUMENT.holds(26, "how many keys: the most that there can be", "open(1) = 0\n" + Begin.full(0) + """
            commit() = 1
            go(1) = 0
            fill(0, 1000, 1, 100, 1) = 100
            fill(0, -100, 1, 100, 1) = 200
            commit() = 2
            diff(1, 2, 0) = 400
            diffKey(0) = -100
            diffKind(0) = 1
            diffKey(100) = 0
            diffKind(100) = 2
            diffKey(399) = 1099
            diffKind(399) = 1
            diffKey(400) = NOTHING
            diffKind(400) = 0
            """);
    }

    private static void diffList() {
        String listed = Begin.TWO_BRANCHES + "diff(2, 3, 0) = 1\ndiffKey(0) = 2\n";
        DOCUMENT.holds(26, "BAD, and the list stays: no such commit", listed
                + Script.each("diff(#, 2, 0) = BAD\ndiff(2, #, 0) = BAD", NO_COMMIT) + """
            diffKey(0) = 2
            diffKind(0) = 9
            diffKey(1) = NOTHING
            """);
        DOCUMENT.holds(26, "BAD, and the list stays: no such .. table.", listed
                + Script.each("diff(2, 3, #) = BAD\ndiff(NONE, NONE, #) = BAD", NO_TABLE) + """
            diffKey(0) = 2
            diff(2, 3, 2) = 0
            diff(2, 3, 1) = 1
            diffKey(0) = 7
            """);
        DOCUMENT.holds(26, "BAD, and the list stays: a commit that went", listed + """
            close(1) = 3
            sweep() = 1
            diff(2, 3, 0) = BAD
            diff(3, 2, 0) = BAD
            diff(3, NONE, 0) = BAD
            diffKey(0) = 2
            """);
        DOCUMENT.holds(26, "no such commit: the first that is not there", Begin.commits(1, 59) + """
            diff(58, 59, 0) = 1
            diff(59, 60, 0) = BAD
            diff(60, 59, 0) = BAD
            diff(59, 64, 0) = BAD
            """);
    }

    private static void diffKey() {
        DOCUMENT.holds(27, "The i-th key of the list; NOTHING when there is none.", """
            diffKey(0) = NOTHING
            put(0, 5, 1, 1, 1) = 1
            put(0, 6, 1, 1, 1) = 1
            diff(0, NONE, 0) = 2
            diffKey(0) = 5
            diffKey(1) = 6
            diffKey(2) = NOTHING
            diffKey(-1) = NOTHING
            diffKey(MIN) = NOTHING
            diffKey(MAX) = NOTHING
            """);
        DOCUMENT.holds(27, "(The list stays as it is, whatever changes, until the next diff().)",
                Begin.TWO_BRANCHES + """
            put(0, 9, 9, 9, 9) = 1
            diff(2, NONE, 0) = 1
            diffKey(0) = 9
            drop(0, 9) = 1
            diffKey(0) = 9
            put(0, 8, 8, 8, 8) = 1
            diffKey(0) = 9
            commit() = 4
            diffKey(0) = 9
            merge(1) = 3
            diffKey(0) = 9
            reset() = 1
            go(1) = 3
            close(0) = 4
            sweep() = 2
            diffKey(0) = 9
            diffKind(0) = 1
            diffKey(1) = NOTHING
            diff(3, NONE, 0) = 0
            diffKey(0) = NOTHING
            """);
    }

    private static void diffKind() {
        DOCUMENT.holds(28, "1 came, 2 went, 8 and more: changed, 8 + the bits 1, 2, 4 of columns 0, 1, 2",
                Script.range("put(0, #, 0, 0, 0) = 1", 0, 8) + """
            commit() = 1
            put(0, 1, 1, 0, 0) = 0
            put(0, 2, 0, 1, 0) = 0
            put(0, 3, 1, 1, 0) = 0
            put(0, 4, 0, 0, 1) = 0
            put(0, 5, 1, 0, 1) = 0
            put(0, 6, 0, 1, 1) = 0
            put(0, 7, 1, 1, 1) = 0
            drop(0, 8) = 1
            put(0, 9, 0, 0, 0) = 1
            diff(1, NONE, 0) = 9
            """ + Script.range("diffKey(#)", 0, 8) + """
            diffKind(0) = 9
            diffKind(1) = 10
            diffKind(2) = 11
            diffKind(3) = 12
            diffKind(4) = 13
            diffKind(5) = 14
            diffKind(6) = 15
            diffKind(7) = 2
            diffKind(8) = 1
            """);
        DOCUMENT.holds(28, "0 when there is none.", """
            diffKind(0) = 0
            put(0, 5, 1, 1, 1) = 1
            diff(0, NONE, 0) = 1
            diffKind(0) = 1
            diffKind(1) = 0
            diffKind(-1) = 0
            diffKind(MIN) = 0
            diffKind(MAX) = 0
            """);
    }

    private static void threeVersions() {
        String old = """
            put(0, 1, 1, 1, 1) = 1
            put(0, 2, 1, 1, 1) = 1
            """;
        String changes = """
            drop(0, 1) = 1
            put(0, 2, 2, 2, 2) = 0
            put(0, 3, 3, 3, 3) = 1
            """;
        String merged = """
            merge(1) = 2
            size(0) = 2
            get(0, 1, 0) = NOTHING
            get(0, 2, 0) = 2
            get(0, 3, 0) = 3
            """;
        DOCUMENT.holds(0, "if OURS and THEIRS are the same (both no row, or the same columns), that",
                three(old, changes, changes) + merged);
        DOCUMENT.holds(0, "else if OLD and OURS are the same, THEIRS", three(old, "", changes) + merged);
        DOCUMENT.holds(0, "else if OLD and THEIRS are the same, OURS", three(old, changes, "") + merged);
        DOCUMENT.holds(0, "if OURS and THEIRS are the same (both no row ..): of all that there was", three(old, """
            drop(0, 1) = 1
            drop(0, 2) = 1
            """, """
            drop(0, 2) = 1
            drop(0, 1) = 1
            """) + """
            merge(1) = 2
            size(0) = 0
            root(NONE, 0) = 1
            """);
    }

    private static void threeVersionsByColumn() {
        DOCUMENT.holds(0, "column by column: if two of the three are the same as said .., that one", three("""
            put(0, 1, 1, 1, 1) = 1
            put(0, 2, 1, 1, 1) = 1
            """, """
            put(0, 1, 2, 1, 2) = 0
            put(0, 2, 5, 1, 1) = 0
            """, """
            put(0, 1, 1, 2, 2) = 0
            put(0, 2, 1, 1, MIN) = 0
            """) + """
            merge(1) = 2
            get(0, 1, 0) = 2
            get(0, 1, 1) = 2
            get(0, 1, 2) = 2
            get(0, 2, 0) = 5
            get(0, 2, 1) = 1
            get(0, 2, 2) = MIN
            """);
        DOCUMENT.holds(0, "if in no column all three differ .. otherwise the key is in CONFLICT, and is as in OURS",
                three(Script.range("put(0, #, 1, 1, 1) = 1", 1, 3), """
            put(0, 1, 2, 1, 4) = 0
            put(0, 2, 2, 4, 1) = 0
            put(0, 3, 4, 1, 2) = 0
            """, """
            put(0, 1, 3, 5, 4) = 0
            put(0, 2, 1, 5, 6) = 0
            put(0, 3, 4, 6, 3) = 0
            """) + """
            merge(1) = 5
            conflict(0, 1) = 1
            conflict(1, 1) = 2
            conflict(2, 1) = 3
            get(0, 1, 0) = 2
            get(0, 1, 1) = 1
            get(0, 1, 2) = 4
            get(0, 2, 0) = 2
            get(0, 2, 1) = 4
            get(0, 2, 2) = 1
            get(0, 3, 0) = 4
            get(0, 3, 1) = 1
            get(0, 3, 2) = 2
            """);
        DOCUMENT.holds(0, "else if all three have a row .. otherwise the key is in CONFLICT", three("""
            put(0, 1, 1, 1, 1) = 1
            put(0, 2, 1, 1, 1) = 1
            """, """
            drop(0, 1) = 1
            put(0, 2, 2, 1, 1) = 0
            put(0, 3, 1, 1, 1) = 1
            """, """
            put(0, 1, 1, 2, 1) = 0
            drop(0, 2) = 1
            put(0, 3, 1, 1, 2) = 1
            """) + """
            merge(1) = 5
            get(0, 1, 0) = NOTHING
            get(0, 2, 0) = 2
            get(0, 3, 2) = 1
            version(0, 1, 0) = NOTHING
            version(1, 2, 0) = NOTHING
            version(2, 0, 0) = NOTHING
            """);
    }

    private static void conflict() {
        DOCUMENT.holds(0, "CONFLICTS are in order of tables and keys; each is OPEN until it is settled.",
                SIX_CONFLICTS + """
            conflict(0, 0) = 0
            conflict(0, 1) = MIN
            conflict(1, 1) = -1
            conflict(2, 1) = 0
            conflict(3, 0) = 0
            conflict(3, 1) = MAX
            conflict(4, 0) = 2
            conflict(4, 1) = MIN
            conflict(5, 0) = 2
            conflict(5, 1) = MAX
            """ + Script.range("conflict(#, 2) = 1", 0, 5) + """
            settle(5, 0) = 1
            conflict(5, 2) = 0
            conflict(4, 2) = 1
            settle(5, 1) = 0
            conflict(5, 2) = 0
            """);
        DOCUMENT.holds(34, "Of conflict i (from 0, of all): 0 its table, 1 its key, 2 whether it is open (1, 0)",
                SIX_CONFLICTS + """
            conflict(0, 0) = 0
            conflict(0, 1) = MIN
            conflict(0, 2) = 1
            settle(0, 2) = 1
            conflict(0, 0) = 0
            conflict(0, 1) = MIN
            conflict(0, 2) = 0
            conflict(5, 0) = 2
            conflict(5, 1) = MAX
            conflict(5, 2) = 1
            """);
        DOCUMENT.holds(34, "NOTHING when there is none such.", """
            conflict(0, 0) = NOTHING
            """ + SIX_CONFLICTS + Script.each("conflict(#, 0) = NOTHING", -1, 6, MIN, MAX)
                + Script.each("conflict(5, #) = NOTHING", -1, 3, MIN, MAX)
                + Script.range("settle(#, 1) = 1", 0, 5) + """
            conflict(5, 0) = 2
            commit() = 3
            conflict(0, 0) = NOTHING
            conflict(5, 0) = NOTHING
            """);
    }

    private static void merge() {
        DOCUMENT.holds(29, "0 when THEIRS is an ancestor of OURS: nothing is done.", Begin.ONE_COMMIT + """
            merge(0) = 0, and nothing changes
            open(1) = 1
            merge(1) = 0, and nothing changes
            put(1, 1, 1, 1, 1) = 1
            commit() = 2
            merge(1) = 0, and nothing changes
            open(5) = 2
            merge(5) = 0, and nothing changes
            merging() = false
            """);
        DOCUMENT.holds(29, "1 when OURS is an ancestor of THEIRS: that becomes the head, and the work is that.", """
            open(1) = 0
            open(5) = 0
            """ + Begin.ONE_COMMIT + """
            put(1, 1, 1, 1, 1) = 1
            commit() = 2
            go(1) = 0
            merge(0) = 1
            head(1) = 2
            get(1, 1, 0) = 1
            size(0) = 3
            merging() = false
            commit() = NONE
            merge(0) = 0
            go(5) = 0
            merge(1) = 1
            head(5) = 2
            """);
        DOCUMENT.holds(29, "commit() will have the parents OURS and THEIRS: 2 + how many conflicts.",
                Begin.TWO_BRANCHES + """
            merge(1) = 3
            merging() = true
            conflicts(1) = 1
            head(0) = 2
            get(0, 2, 0) = 5
            get(1, 7, 0) = 7
            settle(0, 2) = 1
            commit() = 4
            parent(4, 0) = 2
            parent(4, 1) = 3
            merge(1) = 0
            go(1) = 3
            merge(0) = 1
            head(1) = 4
            """);
        DOCUMENT.holds(29, "OLD their base: of two the greatest number", """
            put(0, 1, 1, 0, 0) = 1
            commit() = 1
            open(1) = 1
            put(0, 1, 2, 0, 0) = 0
            commit() = 2
            open(3) = 2
            go(1) = 1
            put(0, 1, 3, 0, 0) = 0
            commit() = 3
            open(2) = 3
            go(0) = 2
            merge(1) = 3
            version(0, 0, 0) = 1
            settle(0, 1) = 1
            commit() = 4
            put(0, 1, 5, 0, 0) = 0
            commit() = 5
            go(2) = 3
            merge(3) = 3
            settle(0, 1) = 1
            commit() = 6
            put(0, 1, 7, 0, 0) = 0
            commit() = 7
            base(5, 7) = 3
            merge(0) = 3
            version(0, 0, 0) = 3
            version(0, 1, 0) = 7
            version(0, 2, 0) = 5
            """);
        DOCUMENT.holds(29, "2 + how many conflicts: none",
                three("", "put(0, 1, 1, 1, 1) = 1\n", "put(0, 2, 2, 2, 2) = 1\n") + """
            merge(1) = 2
            merging() = true
            conflicts(0) = 0
            commit() = 4
            parent(4, 1) = 3
            size(0) = 2
            """);
    }

    private static void mergeRefused() {
        DOCUMENT.holds(29, "BAD: no such branch is there", Begin.ONE_COMMIT + Script.each("merge(#) = BAD", NO_BRANCH)
                + Script.range("merge(#) = BAD", 1, 5) + """
            open(5) = 1
            merge(5) = 0
            close(5) = 1
            merge(5) = BAD
            """);
        DOCUMENT.holds(29, "BUSY: a merge is under way", Begin.CONFLICT + """
            merge(1) = BUSY
            merge(0) = BUSY
            settle(0, 2) = 1
            merge(1) = BUSY
            reset() = 1
            pick(3) = 3
            merge(1) = BUSY
            reset() = 1
            undo(2) = 2
            merge(1) = BUSY
            reset() = 1
            merge(1) = 3
            """);
        DOCUMENT.holds(29, "DIRTY: the work is not clean.", Begin.TWO_BRANCHES + """
            cell(0, 1, 1, 21) = 1
            merge(1) = DIRTY
            merge(0) = DIRTY
            cell(0, 1, 1, 20) = 1
            put(2, 5, 5, 5, 5) = 1
            merge(1) = DIRTY
            drop(2, 5) = 1
            merge(1) = 3
            """);
        DOCUMENT.holds(29, Sentences.FIRST_NAMED, Begin.MERGE_NOT_CLEAN + """
            merge(1) = BAD
            merge(6) = BAD
            merge(0) = BUSY
            reset() = 1
            put(0, 9, 9, 9, 9) = 1
            merge(1) = BAD
            merge(0) = DIRTY
            reset() = 1
            merge(0) = 0
            """);
    }

    private static void mergeFull() {
        for (int t = 0; t < 3; t++) {
            DOCUMENT.holds(29, "FULL, and nothing is done: a table would have more than 200 rows. (Table " + t + ")",
                    Script.each("""
                fill(#, 0, 1, 100, 1) = 100
                fill(#, 100, 1, 99, 2) = 199
                commit() = 1
                open(1) = 1
                put(#, 500, 1, 1, 1) = 1
                commit() = 2
                go(1) = 1
                put(#, -600, 1, 1, 1) = 1
                commit() = 3
                merge(0) = FULL
                merging() = false
                pick(2) = FULL
                size(#) = 200
                drop(#, 0) = 1
                merge(0) = DIRTY
                pick(2) = DIRTY
                commit() = 4
                pick(2) = 2
                size(#) = 200
                reset() = 1
                merge(0) = 2
                size(#) = 200
                commit() = 5
                """, t));
        }
        DOCUMENT.holds(29, "FULL, and nothing is done: conflicts that were found before", """
            put(0, 1, 0, 0, 0) = 1
            """ + Begin.full(2) + """
            drop(2, 0) = 1
            commit() = 1
            open(1) = 1
            put(0, 1, 1, 0, 0) = 0
            put(2, 500, 1, 1, 1) = 1
            commit() = 2
            go(1) = 1
            put(0, 1, 2, 0, 0) = 0
            put(2, 600, 1, 1, 1) = 1
            commit() = 3
            merge(0) = FULL
            conflicts(0) = 0
            conflicts(1) = 0
            conflict(0, 0) = NOTHING
            commit() = NONE
            reset() = 0
            """);
        DOCUMENT.holds(0, "A table that would have more than 200 rows by that makes it fail.", FULL_WITH_CONFLICTS + """
            merge(1) = 4
            size(0) = 200
            get(0, 3, 0) = NOTHING
            get(0, 5, 0) = 5
            """);
        DOCUMENT.holds(0, "A table that would have more than 200 rows: rows that went make room", """
            fill(0, 0, 1, 100, 1) = 100
            fill(0, 100, 1, 99, 1) = 199
            commit() = 1
            open(1) = 1
            put(0, 500, 1, 1, 1) = 1
            commit() = 2
            go(1) = 1
            drop(0, 198) = 1
            put(0, 600, 1, 1, 1) = 1
            commit() = 3
            merge(0) = 2
            size(0) = 200
            kth(0, 199) = 600
            """);
    }

    private static void pick() {
        DOCUMENT.holds(30, "OLD is its parent, THEIRS c, OURS the head of the branch at hand", Begin.TWO_BRANCHES + """
            pick(3) = 3
            version(0, 0, 0) = 20
            version(0, 1, 0) = 5
            version(0, 2, 0) = 6
            get(1, 7, 0) = 7
            settle(0, 2) = 1
            commit() = 4
            parent(4, 0) = 2
            parent(4, 1) = NONE
            pick(4) = 2
            """);
        DOCUMENT.holds(30, "2 + how many conflicts: none, and nothing to take over", Begin.ONE_COMMIT + """
            pick(1) = 2
            merging() = true
            conflicts(1) = 0
            commit() = 2
            parent(2, 0) = 1
            """);
        DOCUMENT.holds(30, "BAD: no such commit", Begin.TWO_BRANCHES + Script.each("pick(#) = BAD", NO_COMMIT) + """
            pick(-1) = BAD
            close(1) = 3
            sweep() = 1
            pick(3) = BAD
            pick(2) = 2
            """);
        DOCUMENT.holds(30, "BAD: .. or it has not just one parent", Begin.CONFLICT + """
            settle(0, 1) = 1
            commit() = 4
            pick(0) = BAD
            undo(0) = BAD
            pick(4) = BAD
            undo(4) = BAD
            pick(1) = 3
            reset() = 1
            undo(3) = 3
            """);
        DOCUMENT.holds(30, "BAD: no such commit: the first that is not there", Begin.commits(1, 59) + """
            pick(60) = BAD
            pick(64) = BAD
            pick(65) = BAD
            undo(60) = BAD
            undo(65) = BAD
            pick(59) = 2
            reset() = 1
            undo(59) = 2
            get(0, 1, 0) = 58
            commit() = FULL
            """);
    }

    private static void pickRefused() {
        DOCUMENT.holds(30, "BUSY .. as for merge()", Begin.CONFLICT + """
            pick(3) = BUSY
            undo(3) = BUSY
            settle(0, 2) = 1
            pick(3) = BUSY
            undo(3) = BUSY
            reset() = 1
            pick(3) = 3
            pick(3) = BUSY
            undo(3) = BUSY
            reset() = 1
            undo(2) = 2
            undo(2) = BUSY
            pick(2) = BUSY
            """);
        DOCUMENT.holds(30, "DIRTY .. as for merge()", Begin.TWO_BRANCHES + """
            cell(0, 1, 1, 21) = 1
            pick(3) = DIRTY
            undo(2) = DIRTY
            cell(0, 1, 1, 20) = 1
            pick(3) = 3
            """);
        DOCUMENT.holds(30, Sentences.FIRST_NAMED, Begin.MERGE_NOT_CLEAN + """
            pick(0) = BAD
            pick(2) = BAD
            undo(0) = BAD
            undo(2) = BAD
            pick(1) = BUSY
            undo(1) = BUSY
            reset() = 1
            put(0, 9, 9, 9, 9) = 1
            pick(0) = BAD
            undo(2) = BAD
            pick(1) = DIRTY
            undo(1) = DIRTY
            """);
    }

    private static void undo() {
        DOCUMENT.holds(31, "the same with OLD c and THEIRS its parent.", Begin.ONE_COMMIT + """
            put(0, 2, 5, 5, 5) = 0
            drop(0, 3) = 1
            commit() = 2
            undo(2) = 2
            get(0, 2, 0) = 20
            get(0, 3, 0) = 30
            commit() = 3
            parent(3, 0) = 2
            parent(3, 1) = NONE
            put(0, 2, 6, 6, 6) = 0
            commit() = 4
            undo(2) = 3
            version(0, 0, 0) = 5
            version(0, 1, 0) = 6
            version(0, 2, 0) = 20
            reset() = 1
            undo(1) = 3
            version(0, 2, 0) = NOTHING
            size(0) = 1
            """);
        DOCUMENT.holds(31, "Answers as pick(): BAD", Begin.TWO_BRANCHES + Script.each("undo(#) = BAD", NO_COMMIT) + """
            undo(-1) = BAD
            undo(0) = BAD
            close(1) = 3
            sweep() = 1
            undo(3) = BAD
            undo(1) = 3
            """);
        DOCUMENT.holds(31, "Answers as pick(): FULL", Begin.full(1) + """
            commit() = 1
            drop(1, 7) = 1
            commit() = 2
            put(1, 1000, 1, 1, 1) = 1
            commit() = 3
            undo(2) = FULL
            merging() = false
            drop(1, 8) = 1
            undo(2) = DIRTY
            commit() = 4
            undo(2) = 2
            size(1) = 200
            """);
    }

    private static void merging() {
        DOCUMENT.holds(32, "Whether a merge (by merge(), pick() or undo()) is under way.", Begin.TWO_BRANCHES + """
            merging() = false
            merge(0) = 0
            merging() = false
            merge(2) = BAD
            pick(9) = BAD
            merging() = false
            merge(1) = 3
            merging() = true
            settle(0, 2) = 1
            merging() = true
            commit() = 4
            merging() = false
            pick(2) = 3
            merging() = true
            reset() = 1
            merging() = false
            undo(2) = 3
            merging() = true
            reset() = 1
            merging() = false
            go(1) = 3
            merge(0) = 1
            merging() = false
            """);
    }

    private static void conflicts() {
        DOCUMENT.holds(33, "How many conflicts are open (0), or of the merge under way there are in all (1).", """
            conflicts(0) = 0
            conflicts(1) = 0
            """ + SIX_CONFLICTS + """
            conflicts(0) = 6
            conflicts(1) = 6
            settle(3, 2) = 1
            settle(3, 0) = 0
            conflicts(0) = 5
            conflicts(1) = 6
            """ + Script.each("settle(#, 1) = 1", 0, 1, 2, 4, 5) + """
            conflicts(0) = 0
            conflicts(1) = 6
            commit() = 3
            conflicts(0) = 0
            conflicts(1) = 0
            """);
        DOCUMENT.holds(33, "BAD: another number.",
                Begin.CONFLICT + Script.each("conflicts(#) = BAD", -1, 2, MIN, MAX) + """
            conflicts(0) = 1
            conflicts(1) = 1
            """);
    }

    private static void mostConflicts() {
        DOCUMENT.holds(33, "How many conflicts: the most that there can be", MOST_CONFLICTS + """
            conflicts(0) = 900
            conflicts(1) = 900
            conflict(0, 0) = 0
            conflict(0, 1) = 0
            conflict(299, 0) = 0
            conflict(299, 1) = 299
            conflict(300, 0) = 1
            conflict(300, 1) = 0
            conflict(899, 0) = 2
            conflict(899, 1) = 299
            conflict(899, 2) = 1
            conflict(900, 0) = NOTHING
            version(899, 0, 0) = NOTHING
            version(700, 1, 0) = NOTHING
            version(600, 2, 0) = NOTHING
            version(699, 2, 0) = NOTHING
            version(900, 1, 0) = NOTHING
            size(0) = 200
            size(2) = 200
            settle(900, 1) = BAD
            settle(899, 2) = 1
            settle(899, 0) = 0
            conflicts(0) = 899
            settle(700, 2) = 1
            settle(701, 2) = FULL
            settle(600, 2) = 1
            settle(701, 2) = 1
            commit() = BUSY
            reset() = 1
            conflicts(1) = 0
            """);
    }

    private static void version() {
        DOCUMENT.holds(35, "Column c of the key of conflict i in a version (0 OLD, 1 OURS, 2 THEIRS)",
                Begin.CONFLICT + """
            version(0, 0, 0) = 20
            version(0, 0, 1) = 40
            version(0, 0, 2) = 60
            version(0, 1, 0) = 5
            version(0, 1, 2) = 60
            version(0, 2, 0) = 6
            version(0, 2, 2) = 60
            settle(0, 2) = 1
            version(0, 1, 0) = 5
            """);
        DOCUMENT.holds(35, "NOTHING when that has no row of it", SIX_CONFLICTS + """
            version(0, 0, 0) = NOTHING
            version(5, 0, 2) = NOTHING
            version(0, 1, 0) = 1
            version(5, 2, 0) = 2
            settle(0, 0) = 1
            version(0, 1, 0) = 1
            """);
        DOCUMENT.holds(35, "or there is none such.", "version(0, 0, 0) = NOTHING\n" + Begin.CONFLICT
                + Script.each("version(#, 0, 0) = NOTHING", -1, 1, MIN, MAX)
                + Script.each("version(0, #, 0) = NOTHING", -1, 3, MIN, MAX)
                + Script.each("version(0, 0, #) = NOTHING", -1, 3, MIN, MAX) + """
            settle(0, 1) = 1
            version(0, 0, 0) = 20
            commit() = 4
            version(0, 0, 0) = NOTHING
            """);
    }

    private static void settle() {
        DOCUMENT.holds(36, "the work has that row of its key, or none. (It may be settled again.)", SIX_CONFLICTS + """
            settle(0, 2) = 1
            get(0, MIN, 0) = 2
            settle(0, 1) = 0
            get(0, MIN, 0) = 1
            settle(0, 0) = 0
            get(0, MIN, 0) = NOTHING
            settle(0, 0) = 0, and nothing changes
            size(0) = 3
            settle(0, 1) = 0
            size(0) = 4
            settle(5, 0) = 1
            get(2, MAX, 0) = NOTHING
            kth(2, 0) = MIN
            settle(5, 2) = 0
            get(2, MAX, 0) = 2
            """);
        DOCUMENT.holds(36, "1 if it was open, else 0.", SIX_CONFLICTS + """
            settle(5, 1) = 1
            settle(5, 1) = 0, and nothing changes
            settle(0, 1) = 1
            settle(0, 2) = 0
            conflicts(0) = 4
            """);
        DOCUMENT.holds(36, "BAD: no such conflict or version", "settle(0, 0) = BAD\n" + SIX_CONFLICTS
                + Script.each("settle(#, 1) = BAD", -1, 6, MIN, MAX)
                + Script.each("settle(5, #) = BAD", -1, 3, MIN, MAX) + """
            settle(5, 0) = 1
            settle(0, 2) = 1
            """ + Script.range("settle(#, 1) = 1", 1, 4) + """
            commit() = 3
            settle(0, 1) = BAD
            pick(2) = 6
            settle(4, 0) = BAD
            reset() = 1
            settle(0, 0) = BAD
            """);
    }

    private static void settleFull() {
        DOCUMENT.holds(36, "FULL: the table has 200 rows, and none of that key.", FULL_WITH_CONFLICTS + """
            merge(1) = 4
            settle(0, 2) = FULL
            settle(0, 0) = FULL
            conflict(0, 2) = 1
            conflicts(0) = 2
            settle(3, 2) = BAD
            settle(0, 3) = BAD
            commit() = BUSY
            """);
        DOCUMENT.holds(36, "FULL: .. and none of that key: it has one, or there is room", three(Begin.full(0), """
            drop(0, 3) = 1
            cell(0, 4, 0, 1) = 1
            """, """
            cell(0, 3, 0, 3) = 1
            cell(0, 4, 0, 4) = 1
            """) + """
            merge(1) = 4
            size(0) = 199
            settle(0, 2) = 1
            size(0) = 200
            settle(0, 0) = 0
            settle(1, 2) = 1
            get(0, 4, 0) = 4
            size(0) = 200
            """);
        // A version that has no row of the key needs no room.
        DOCUMENT.holds(36, "the work has .. none: in a table of 200 rows", FULL_WITH_CONFLICTS + """
            merge(1) = 4
            settle(0, 1) = 1
            settle(0, 2) = FULL
            settle(1, 1) = 1
            size(0) = 200
            commit() = 4
            """);
    }
}
