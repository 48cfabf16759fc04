/** Beginnings that many scripts have in common. */
final class Begin {
    /** Commit 1 has rows 1, 2, 3 of table 0. */
    static final String ONE_COMMIT = """
        put(0, 1, 10, 20, 30) = 1
        put(0, 2, 20, 40, 60) = 1
        put(0, 3, 30, 60, 90) = 1
        commit() = 1
        """;

    /** A merge is under way, has no conflict, and the work is clean. */
    static final String MERGE_CLEAN = ONE_COMMIT + """
        pick(1) = 2
        """;

    /** A merge is under way, has no conflict, and the work is not clean: it is empty. */
    static final String MERGE_NOT_CLEAN = ONE_COMMIT + """
        undo(1) = 2
        """;

    /** Behind commit 1 branch 0, which is at hand, has commit 2 and branch 1 has commit 3. */
    static final String TWO_BRANCHES = ONE_COMMIT + """
        open(1) = 1
        cell(0, 2, 0, 5) = 1
        commit() = 2
        go(1) = 1
        cell(0, 2, 0, 6) = 1
        put(1, 7, 7, 7, 7) = 1
        commit() = 3
        go(0) = 2
        """;

    /** A merge is under way with one conflict, key 2 of table 0. */
    static final String CONFLICT = TWO_BRANCHES + """
        merge(1) = 3
        """;

    private Begin() {
    }

    /** A table without rows gets the keys 0 .. 199. */
    static String full(int t) {
        return Script.each("fill(#, 0, 1, 100, 1) = 100", t) + Script.each("fill(#, 100, 1, 100, 2) = 200", t);
    }

    /** The commits from .. to on the branch at hand, each with another column 0 of row 1 of table 0. */
    static String commits(int from, int to) {
        return Script.range("put(0, 1, #, 0, 0)\ncommit() = #", from, to);
    }
}
