/** The boundary cases of the promises 16 to 25, branches and commits, and of the terms that they rest on. */
public final class BranchBoundariesTest {
    private static final int MIN = Integer.MIN_VALUE;
    private static final int MAX = Integer.MAX_VALUE;
    private static final int[] NO_BRANCH = {-1, 6, MIN, MAX};
    /** While 0 and 1 alone are there. 64 and 65 would be 0 and 1 to a shift that only counts its lowest bits. */
    private static final int[] NO_COMMIT = {-1, -2, 2, 59, 60, 64, 65, 128, MIN, MAX};

    /** Commits 4 and 5 are both merges of 2 and 3, so 2 and 3 are both bases of them. */
    private static final String TWO_BASES = Begin.ONE_COMMIT + """
        open(1) = 1
        put(0, 4, 4, 4, 4) = 1
        commit() = 2
        open(3) = 2
        go(1) = 1
        put(1, 5, 5, 5, 5) = 1
        commit() = 3
        open(2) = 3
        go(0) = 2
        merge(1) = 2
        commit() = 4
        go(2) = 3
        merge(3) = 2
        commit() = 5
        """;

    /** All 60 commits; the merge of branch 1 into branch 0 has one conflict. */
    private static final String SIXTY_AND_TWO_BRANCHES = Begin.TWO_BRANCHES + Begin.commits(4, 59);

    private static final Sentences DOCUMENT = new Sentences("BranchBoundariesTest");

    public static void main(String[] args) {
        open();
        go();
        close();
        head();
        commit();
        commitNone();
        commitFull();
        parent();
        ancestors();
        base();
        reset();
        sweep();
        sweepSixty();
        DOCUMENT.haveAsked("open", "BAD", "BUSY", "NONE");
        DOCUMENT.haveAsked("go", "BAD", "BUSY", "DIRTY");
        DOCUMENT.haveAsked("close", "BAD");
        DOCUMENT.haveAsked("head", "BAD");
        DOCUMENT.haveAsked("commit", "59", "BUSY", "NONE", "FULL");
        DOCUMENT.haveAsked("parent", "NONE", "BAD");
        DOCUMENT.haveAsked("ancestors", "1", "60", "BAD");
        DOCUMENT.haveAsked("base", "0", "BAD");
        DOCUMENT.haveAsked("reset", "1", "0");
        DOCUMENT.haveAsked("sweep", "0", "59", "BUSY");
        DOCUMENT.end();
    }

    private static void open() {
        DOCUMENT.holds(16, "A branch (0 .. 5) comes to be, its head being that of the branch at hand: that commit.",
                Script.range("open(#) = 0", 1, 5) + Script.range("head(#) = 0", 0, 5) + """
            put(0, 1, 1, 1, 1) = 1
            commit() = 1
            close(5) = 0
            open(5) = 1
            head(5) = 1
            head(4) = 0
            go(4) = 0
            close(0) = 1
            open(0) = 0
            """);
        DOCUMENT.holds(16, "BAD: no such number", Script.each("open(#) = BAD", NO_BRANCH) + """
            open(5) = 0
            close(5) = 0
            """ + Script.each("open(#) = BAD", NO_BRANCH));
        DOCUMENT.holds(16, "BUSY", Begin.MERGE_CLEAN + """
            open(1) = BUSY
            open(5) = BUSY
            reset() = 1
            open(1) = 1
            put(0, 9, 9, 9, 9) = 1
            open(5) = 1
            """);
        DOCUMENT.holds(16, "NONE: it is there.", Begin.ONE_COMMIT + """
            open(0) = NONE
            open(5) = 1
            open(5) = NONE
            close(5) = 1
            open(5) = 1
            """);
        DOCUMENT.holds(16, Sentences.FIRST_NAMED, Begin.MERGE_CLEAN + """
            open(6) = BAD
            open(-1) = BAD
            open(0) = BUSY
            reset() = 1
            open(0) = NONE
            """);
    }

    private static void go() {
        DOCUMENT.holds(17, "A branch is at hand, and the work is that of its head: that commit.",
                Begin.TWO_BRANCHES + """
            get(0, 2, 0) = 5
            go(0) = 2, and nothing changes
            go(1) = 3
            get(0, 2, 0) = 6
            get(1, 7, 0) = 7
            close(1) = BAD
            go(1) = 3, and nothing changes
            go(0) = 2
            get(1, 7, 0) = NOTHING
            open(5) = 2
            go(5) = 2
            """);
        DOCUMENT.holds(17, "BAD: no such branch is there", Script.each("go(#) = BAD", NO_BRANCH)
                + Script.range("go(#) = BAD", 1, 5) + """
            open(5) = 0
            go(5) = 0
            close(0) = 0
            go(0) = BAD
            go(6) = BAD
            """);
        DOCUMENT.holds(17, "BUSY", Begin.MERGE_CLEAN + """
            go(0) = BUSY
            reset() = 1
            go(0) = 1
            open(1) = 1
            pick(1) = 2
            go(1) = BUSY
            """);
        DOCUMENT.holds(17, "DIRTY: the work is not clean.", Begin.TWO_BRANCHES + """
            cell(0, 3, 2, 91) = 1
            go(1) = DIRTY
            go(0) = DIRTY
            cell(0, 3, 2, 90) = 1
            put(2, 1, 1, 1, 1) = 1
            go(1) = DIRTY
            drop(2, 1) = 1
            drop(0, 1) = 1
            go(1) = DIRTY
            put(0, 1, 10, 20, 30) = 1
            go(1) = 3
            """);
        DOCUMENT.holds(17, Sentences.FIRST_NAMED, Begin.MERGE_NOT_CLEAN + """
            go(1) = BAD
            go(6) = BAD
            go(0) = BUSY
            reset() = 1
            put(0, 9, 9, 9, 9) = 1
            go(1) = BAD
            go(0) = DIRTY
            """);
    }

    private static void close() {
        DOCUMENT.holds(18, "A branch is there no more (its commits stay): its head.", Begin.TWO_BRANCHES + """
            close(1) = 3
            head(1) = BAD
            ancestors(3) = 3
            parent(3, 0) = 1
            root(3, 2) = 1
            open(5) = 2
            close(5) = 2
            """);
        DOCUMENT.holds(18, "BAD: no such branch is there", Script.each("close(#) = BAD", NO_BRANCH)
                + Script.range("close(#) = BAD", 1, 5) + """
            open(5) = 0
            close(5) = 0
            close(5) = BAD
            """);
        DOCUMENT.holds(18, "or it is at hand.", Begin.TWO_BRANCHES + """
            close(0) = BAD
            go(1) = 3
            close(1) = BAD
            close(0) = 2
            close(0) = BAD
            """);
        DOCUMENT.holds(18, "A branch is there no more: while a merge is under way", Begin.CONFLICT + """
            close(0) = BAD
            close(1) = 3
            close(1) = BAD
            settle(0, 2) = 1
            commit() = 4
            parent(4, 1) = 3
            """);
    }

    private static void head() {
        DOCUMENT.holds(19, "The head of a branch.", Begin.TWO_BRANCHES + """
            head(0) = 2
            head(1) = 3
            merge(1) = 3
            head(0) = 2
            settle(0, 1) = 1
            commit() = 4
            head(0) = 4
            head(1) = 3
            """);
        DOCUMENT.holds(19, "BAD: no such branch is there.", Script.each("head(#) = BAD", NO_BRANCH)
                + Script.range("head(#) = BAD", 1, 5) + """
            open(5) = 0
            head(5) = 0
            head(6) = BAD
            close(5) = 0
            head(5) = BAD
            """);
    }

    private static void commit() {
        DOCUMENT.holds(20, "The work becomes a commit, the head of the branch at hand; its parent is .. before", """
            put(0, 1, 1, 1, 1) = 1
            commit() = 1
            head(0) = 1
            parent(1, 0) = 0
            parent(1, 1) = NONE
            drop(0, 1) = 1
            commit() = 2
            parent(2, 0) = 1
            root(2, 0) = 1
            """);
        DOCUMENT.holds(20, "(while a merge is under way: as merge(), pick() or undo() say, and that is over then).",
                Begin.CONFLICT + """
            settle(0, 2) = 1
            commit() = 4
            merging() = false
            conflicts(1) = 0
            parent(4, 0) = 2
            parent(4, 1) = 3
            pick(2) = 3
            settle(0, 2) = 1
            commit() = 5
            merging() = false
            parent(5, 0) = 4
            parent(5, 1) = NONE
            undo(5) = 2
            commit() = 6
            merging() = false
            parent(6, 0) = 5
            parent(6, 1) = NONE
            put(2, 1, 1, 1, 1) = 1
            commit() = 7
            parent(7, 0) = 6
            parent(7, 1) = NONE
            """);
        DOCUMENT.holds(20, "BUSY: a conflict is open", Begin.ONE_COMMIT + """
            open(1) = 1
            cell(0, 1, 0, 5) = 1
            cell(0, 3, 0, 5) = 1
            commit() = 2
            go(1) = 1
            cell(0, 1, 0, 6) = 1
            cell(0, 3, 0, 6) = 1
            commit() = 3
            merge(0) = 4
            commit() = BUSY
            settle(1, 0) = 1
            commit() = BUSY
            settle(1, 1) = 0
            commit() = BUSY
            settle(0, 1) = 1
            commit() = 4
            """);
    }

    private static void commitNone() {
        DOCUMENT.holds(20, "NONE: the work is clean, and no merge is under way", """
            commit() = NONE
            put(0, 1, 1, 1, 1) = 1
            commit() = 1
            commit() = NONE
            cell(0, 1, 0, 2) = 1
            cell(0, 1, 0, 1) = 1
            commit() = NONE
            put(0, 1, 1, 1, 1) = 0
            drop(1, 1) = 0
            fill(2, 1, 1, 0, 1) = 0
            commit() = NONE
            reset() = 0
            commit() = NONE
            """);
        DOCUMENT.holds(20, "NONE: .. and no merge is under way: one is, and the work is clean", Begin.MERGE_CLEAN + """
            commit() = 2
            parent(2, 0) = 1
            shared(2, 1, 0) = 1
            diff(1, 2, 0) = 0
            commit() = NONE
            """);
    }

    private static void commitFull() {
        DOCUMENT.holds(0, "COMMITS have numbers 0, 1, .., 59 at most.", Begin.commits(1, 59) + """
            put(0, 1, 60, 0, 0) = 0
            commit() = FULL
            ancestors(59) = 60
            ancestors(60) = BAD
            parent(59, 0) = 58
            parent(60, 0) = BAD
            base(59, 58) = 58
            base(0, 59) = 0
            base(60, 59) = BAD
            diff(58, 59, 0) = 1
            diff(59, NONE, 0) = 1
            diff(59, 60, 0) = BAD
            shared(59, 59, 0) = 1
            shared(59, 60, 0) = BAD
            """);
        DOCUMENT.holds(20, "FULL: there are 60", Begin.commits(1, 58) + """
            put(0, 1, 59, 0, 0) = 0
            commit() = 59
            put(0, 1, 60, 0, 0) = 0
            commit() = FULL
            head(0) = 59
            open(1) = 59
            commit() = FULL
            """);
        DOCUMENT.holds(20, "(numbers are never given twice).", "open(1) = 0\n" + Begin.commits(1, 59) + """
            go(1) = 0
            close(0) = 59
            sweep() = 59
            put(0, 1, 1, 0, 0) = 1
            commit() = FULL
            ancestors(1) = BAD
            """);
        DOCUMENT.holds(20, "(numbers are never given twice): before there are 60", """
            open(1) = 0
            put(0, 1, 1, 0, 0) = 1
            commit() = 1
            go(1) = 0
            close(0) = 1
            sweep() = 1
            put(0, 2, 2, 0, 0) = 1
            commit() = 2
            parent(2, 0) = 0
            ancestors(1) = BAD
            """);
        DOCUMENT.holds(20, Sentences.FIRST_NAMED, SIXTY_AND_TWO_BRANCHES + """
            commit() = NONE
            merge(1) = 3
            commit() = BUSY
            settle(0, 2) = 1
            commit() = FULL
            merging() = true
            conflicts(1) = 1
            reset() = 1
            pick(59) = 2
            commit() = FULL
            """);
    }

    private static void parent() {
        String merged = Begin.CONFLICT + "settle(0, 1) = 1\ncommit() = 4\n";
        DOCUMENT.holds(21, "The i-th parent (0, 1) of a commit.", merged + """
            parent(4, 0) = 2
            parent(4, 1) = 3
            parent(3, 0) = 1
            parent(1, 0) = 0
            """);
        DOCUMENT.holds(21, "NONE: it has none", merged + """
            parent(0, 0) = NONE
            parent(0, 1) = NONE
            parent(1, 1) = NONE
            """ + Script.each("parent(4, #) = NONE\nparent(0, #) = NONE", -1, 2, MIN, MAX));
        DOCUMENT.holds(21, "BAD: no such commit.", Begin.ONE_COMMIT
                + Script.each("parent(#, 0) = BAD\nparent(#, 1) = BAD\nparent(#, 2) = BAD", NO_COMMIT) + """
            parent(1, 0) = 0
            open(1) = 1
            put(2, 2, 2, 2, 2) = 1
            commit() = 2
            parent(2, 0) = 1
            go(1) = 1
            close(0) = 2
            sweep() = 1
            parent(2, 0) = BAD
            """);
    }

    private static void ancestors() {
        DOCUMENT.holds(22, "How many ancestors a commit has.", TWO_BASES + """
            ancestors(0) = 1
            ancestors(1) = 2
            ancestors(2) = 3
            ancestors(3) = 3
            ancestors(4) = 5
            ancestors(5) = 5
            """);
        DOCUMENT.holds(22, "BAD: no such commit.", Begin.ONE_COMMIT + Script.each("ancestors(#) = BAD", NO_COMMIT) + """
            ancestors(1) = 2
            """);
        DOCUMENT.holds(22, "BAD: no such commit: one that went", Begin.TWO_BRANCHES + """
            close(1) = 3
            ancestors(3) = 3
            sweep() = 1
            ancestors(3) = BAD
            ancestors(2) = 3
            """);
    }

    private static void base() {
        DOCUMENT.holds(23, "THE BASE of two commits.", Begin.TWO_BRANCHES + """
            base(2, 3) = 1
            base(3, 2) = 1
            base(3, 3) = 3
            base(1, 3) = 1
            base(3, 1) = 1
            base(0, 3) = 0
            base(0, 0) = 0
            """);
        DOCUMENT.holds(0, "of several the greatest number.", TWO_BASES + """
            base(4, 5) = 3
            base(5, 4) = 3
            base(4, 3) = 3
            base(4, 2) = 2
            base(2, 5) = 2
            """);
        DOCUMENT.holds(23, "BAD: no such commit.", Begin.ONE_COMMIT
                + Script.each("base(#, 1) = BAD\nbase(1, #) = BAD\nbase(#, #) = BAD", NO_COMMIT) + """
            base(1, 1) = 1
            """);
        DOCUMENT.holds(23, "BAD: no such commit: one that went", Begin.TWO_BRANCHES + """
            close(1) = 3
            sweep() = 1
            base(2, 3) = BAD
            base(3, 2) = BAD
            base(3, 3) = BAD
            """);
    }

    private static void reset() {
        DOCUMENT.holds(24, "1 if it was not clean", Begin.TWO_BRANCHES + """
            drop(0, 1) = 1
            reset() = 1
            get(0, 1, 0) = 10
            reset() = 0, and nothing changes
            put(2, 1, 1, 1, 1) = 1
            reset() = 1
            size(2) = 0
            cell(0, 1, 0, 11) = 1
            cell(0, 1, 0, 10) = 1
            reset() = 0, and nothing changes
            """);
        DOCUMENT.holds(24, "or one was", Begin.MERGE_CLEAN + """
            reset() = 1
            merging() = false
            undo(1) = 2
            reset() = 1
            size(0) = 3
            merging() = false
            reset() = 0, and nothing changes
            """);
        DOCUMENT.holds(24, "and no merge is under way", Begin.CONFLICT + """
            settle(0, 2) = 1
            reset() = 1
            merging() = false
            conflicts(0) = 0
            conflicts(1) = 0
            conflict(0, 0) = NOTHING
            get(0, 2, 0) = 5
            size(1) = 0
            commit() = NONE
            merge(1) = 3
            conflicts(0) = 1
            """);
        DOCUMENT.holds(24, "else 0.", """
            reset() = 0, and nothing changes
            put(0, 1, 1, 1, 1) = 1
            commit() = 1
            reset() = 0, and nothing changes
            """);
    }

    private static void sweep() {
        DOCUMENT.holds(25, "Commits that are no ancestors of the head of a branch are there no more: how many went.",
                Begin.TWO_BRANCHES + """
            sweep() = 0, and nothing changes
            put(2, 9, 9, 9, 9) = 1
            close(1) = 3
            sweep() = 1
            sweep() = 0, and nothing changes
            get(2, 9, 0) = 9
            ancestors(3) = BAD
            pick(3) = BAD
            undo(3) = BAD
            diff(2, 3, 0) = BAD
            ancestors(2) = 3
            commit() = 4
            """);
        DOCUMENT.holds(25, "the head of a branch: of any of the six", """
            open(5) = 0
            go(5) = 0
            put(0, 5, 5, 5, 5) = 1
            commit() = 1
            go(0) = 0
            sweep() = 0, and nothing changes
            ancestors(1) = 2
            close(5) = 1
            sweep() = 1
            ancestors(1) = BAD
            """);
        DOCUMENT.holds(25, "(nor as parents: a commit's parents are always there)", TWO_BASES + """
            close(1) = 3
            close(3) = 2
            sweep() = 0, and nothing changes
            close(0) = 4
            sweep() = 1
            ancestors(4) = BAD
            ancestors(5) = 5
            parent(5, 0) = 3
            parent(5, 1) = 2
            parent(3, 0) = 1
            parent(2, 0) = 1
            base(5, 2) = 2
            """);
        DOCUMENT.holds(25, "BUSY.", Begin.MERGE_CLEAN + """
            sweep() = BUSY
            reset() = 1
            sweep() = 0
            open(1) = 1
            put(2, 2, 2, 2, 2) = 1
            commit() = 2
            go(1) = 1
            close(0) = 2
            pick(2) = 2
            sweep() = BUSY
            reset() = 1
            sweep() = 1
            """);
    }

    private static void sweepSixty() {
        DOCUMENT.holds(25, "how many went: of 60 commits", "open(1) = 0\n" + Begin.commits(1, 59) + """
            sweep() = 0
            go(1) = 0
            close(0) = 59
            sweep() = 59
            ancestors(0) = 1
            ancestors(1) = BAD
            ancestors(59) = BAD
            stored() = 1
            sweep() = 0, and nothing changes
            """);
        DOCUMENT.holds(25, "how many went: the last one alone", Begin.commits(1, 58) + """
            open(1) = 58
            put(0, 1, 59, 0, 0) = 0
            commit() = 59
            go(1) = 58
            close(0) = 59
            sweep() = 1
            ancestors(59) = BAD
            ancestors(58) = 59
            """);
    }
}
