/** The boundary cases of the promises 37 to 40, the other store, and of the terms that they rest on. */
public final class StoreBoundariesTest {
    private static final int MIN = Integer.MIN_VALUE;
    private static final int MAX = Integer.MAX_VALUE;
    private static final int[] NO_BRANCH = {-1, 6, MIN, MAX};

    /** The other store has commit 1 of branch 0; here branch 0 has gone back to commit 0, and 1 is not there. */
    private static final String GONE_BACK = """
        open(1) = 0
        put(0, 1, 1, 1, 1) = 1
        commit() = 1
        send(0) = 1
        go(1) = 0
        close(0) = 1
        sweep() = 1
        open(0) = 0
        """;

    /** Branch 0 has commit 1 there, and commit 2, which does not come from it, here; it is at hand. */
    private static final String GONE_ASIDE = GONE_BACK + """
        go(0) = 0
        put(0, 2, 2, 2, 2) = 1
        commit() = 2
        """;

    private static final Sentences DOCUMENT = new Sentences("StoreBoundariesTest");

    public static void main(String[] args) {
        otherStore();
        send();
        sendRefused();
        sendSixty();
        fetch();
        fetchRefused();
        fetchAtHand();
        fetchSixty();
        there();
        kept();
        DOCUMENT.haveAsked("send", "0", "BAD", "DIRTY");
        DOCUMENT.haveAsked("fetch", "0", "59", "BAD", "DIRTY", "BUSY");
        DOCUMENT.haveAsked("there", "0", "59", "BAD");
        DOCUMENT.haveAsked("kept", "1", "60", "BAD");
        DOCUMENT.end();
    }

    private static void otherStore() {
        DOCUMENT.holds(0, "at first commit 0 alone, with its nodes, no branch.", """
            kept(0) = 1
            kept(1) = 1
            """ + Script.range("there(#) = BAD\nfetch(#) = BAD", 0, 5) + """
            put(0, 1, 1, 1, 1) = 1
            commit() = 1
            kept(0) = 1
            kept(1) = 1
            there(0) = BAD
            """);
        DOCUMENT.holds(0, "commits (known by their numbers, they are the same ones) and branches 0 .. 5 of its own",
                Begin.TWO_BRANCHES + """
            send(1) = 3
            there(1) = 3
            there(0) = BAD
            close(1) = 3
            there(1) = 3
            open(1) = 2
            head(1) = 2
            there(1) = 3
            """);
    }

    private static void send() {
        DOCUMENT.holds(37, "come there, as far as they are not there: how many nodes came.", """
            send(0) = 0
            there(0) = 0
            kept(0) = 1
            kept(1) = 1
            """ + Begin.TWO_BRANCHES + """
            send(0) = 2
            there(0) = 2
            kept(0) = 3
            kept(1) = 3
            send(0) = 0, and nothing changes
            send(1) = 2
            kept(0) = 5
            kept(1) = 4
            put(2, 7, 7, 7, 7) = 1
            send(0) = 0, and nothing changes
            commit() = 4
            send(0) = 0
            there(0) = 4
            kept(0) = 5
            kept(1) = 5
            """);
        DOCUMENT.holds(37, "commits that are ancestors of it, and their nodes: of both parents", Begin.CONFLICT + """
            settle(0, 0) = 1
            commit() = 4
            send(0) = 4
            kept(0) = 5
            kept(1) = 5
            send(1) = 0
            there(1) = 3
            """);
        DOCUMENT.holds(37, "how many nodes came: of a full table", Begin.full(0) + Begin.full(2) + """
            commit() = 1
            send(0) = 58
            kept(0) = 59
            drop(0, 0) = 1
            put(0, 0, 1015568748, 1586005467, -2129264258) = 1
            drop(2, 199) = 1
            commit() = 2
            shared(2, 1, 2) = 53
            send(0) = 5
            kept(0) = 64
            """);
        DOCUMENT.holds(37, "A branch of the other store becomes the head: while a merge is under way",
                Begin.CONFLICT + """
            send(0) = 2
            there(0) = 2
            send(1) = 2
            there(1) = 3
            merging() = true
            conflicts(0) = 1
            """);
    }

    private static void sendRefused() {
        DOCUMENT.holds(37, "BAD: no such branch is here", Script.each("send(#) = BAD", NO_BRANCH)
                + Script.range("send(#) = BAD", 1, 5) + """
            open(5) = 0
            send(5) = 0
            there(5) = 0
            close(5) = 0
            send(5) = BAD
            there(5) = 0
            """);
        DOCUMENT.holds(37, "DIRTY: there its head is a commit that is no ancestor of that one.", GONE_ASIDE + """
            send(0) = DIRTY
            there(0) = 1
            kept(1) = 2
            send(1) = 0
            there(1) = 0
            open(2) = 2
            send(2) = 1
            there(2) = 2
            send(0) = DIRTY
            """);
        DOCUMENT.holds(37, "no ancestor of that one: the head there lies behind the one here", GONE_BACK + """
            send(0) = DIRTY
            fetch(0) = 1
            send(0) = 0, and nothing changes
            """);
        DOCUMENT.holds(37, "no ancestor of that one: it is one by a second parent", """
            open(1) = 0
            put(0, 1, 1, 1, 1) = 1
            commit() = 1
            send(0) = 1
            go(1) = 0
            put(0, 2, 2, 2, 2) = 1
            commit() = 2
            open(2) = 2
            go(2) = 2
            close(1) = 2
            merge(0) = 2
            commit() = 3
            close(0) = 1
            open(0) = 3
            send(0) = 2
            there(0) = 3
            """);
        DOCUMENT.holds(37, Sentences.FIRST_NAMED, GONE_ASIDE + """
            go(1) = 0
            send(0) = DIRTY
            close(0) = 2
            send(0) = BAD
            send(6) = BAD
            """);
    }

    private static void sendSixty() {
        DOCUMENT.holds(37, "commits that are ancestors of it: all 60", Begin.commits(1, 59) + """
            send(0) = 59
            there(0) = 59
            kept(0) = 60
            kept(1) = 60
            send(0) = 0, and nothing changes
            """);
    }

    private static void fetch() {
        DOCUMENT.holds(38, "The head here becomes that of the branch in the other store: that commit.", GONE_BACK + """
            fetch(0) = 1
            head(0) = 1
            ancestors(1) = 2
            size(0) = 0
            fetch(0) = 1, and nothing changes
            go(0) = 1
            size(0) = 1
            """);
        DOCUMENT.holds(38, "a branch that is not here comes to be", """
            open(5) = 0
            send(5) = 0
            close(5) = 0
            head(5) = BAD
            fetch(5) = 0
            head(5) = 0
            close(5) = 0
            put(0, 9, 9, 9, 9) = 1
            fetch(5) = 0
            head(5) = 0
            get(0, 9, 0) = 9
            """);
        DOCUMENT.holds(38, "commits that went here come back: both parents", "open(5) = 0\n" + Begin.CONFLICT + """
            settle(0, 2) = 1
            commit() = 4
            send(0) = 4
            go(5) = 0
            close(0) = 4
            close(1) = 3
            sweep() = 4
            ancestors(3) = BAD
            fetch(0) = 4
            ancestors(4) = 5
            parent(4, 0) = 2
            parent(4, 1) = 3
            ancestors(3) = 3
            sweep() = 0
            """);
        DOCUMENT.holds(38, "commits that went here come back: with all that they had", """
            open(1) = 0
            """ + Begin.ONE_COMMIT + """
            open(2) = 1
            put(1, 1, 1, 1, 1) = 1
            commit() = 2
            send(0) = 2
            go(1) = 0
            close(0) = 2
            close(2) = 1
            sweep() = 2
            ancestors(1) = BAD
            ancestors(2) = BAD
            stored() = 1
            fetch(0) = 2
            ancestors(1) = 2
            ancestors(2) = 3
            parent(2, 0) = 1
            parent(1, 0) = 0
            base(1, 2) = 1
            diff(1, 2, 1) = 1
            stored() = 3
            sweep() = 0
            pick(2) = 2
            get(1, 1, 0) = 1
            commit() = 3
            """);
        DOCUMENT.holds(38, "commits that went here come back: not those that were never sent", """
            open(1) = 0
            """ + Begin.ONE_COMMIT + """
            send(0) = 1
            put(1, 1, 1, 1, 1) = 1
            commit() = 2
            go(1) = 0
            close(0) = 2
            sweep() = 2
            fetch(0) = 1
            ancestors(1) = 2
            ancestors(2) = BAD
            go(0) = 1
            put(2, 2, 2, 2, 2) = 1
            commit() = 3
            parent(3, 0) = 1
            """);
    }

    private static void fetchRefused() {
        DOCUMENT.holds(38, "BAD: there is no such branch there", Script.each("fetch(#) = BAD", NO_BRANCH)
                + Script.range("fetch(#) = BAD", 0, 5) + """
            open(5) = 0
            fetch(5) = BAD
            send(5) = 0
            fetch(5) = 0
            fetch(6) = BAD
            fetch(0) = BAD
            """);
        DOCUMENT.holds(38, "DIRTY: the head here is no ancestor of that one", GONE_ASIDE + """
            fetch(0) = DIRTY
            go(1) = 0
            fetch(0) = DIRTY
            head(0) = 2
            ancestors(1) = BAD
            close(0) = 2
            fetch(0) = 1
            put(1, 8, 8, 8, 8) = 1
            commit() = 3
            send(1) = 1
            """);
        DOCUMENT.holds(38, "no ancestor of that one: the head here lies behind the one there", """
            send(0) = 0
            put(0, 1, 1, 1, 1) = 1
            commit() = 1
            fetch(0) = DIRTY
            open(1) = 1
            go(1) = 1
            fetch(0) = DIRTY
            send(0) = 1
            fetch(0) = 1, and nothing changes
            """);
        DOCUMENT.holds(38, Sentences.FIRST_NAMED, GONE_ASIDE + """
            undo(2) = 2
            fetch(1) = BAD
            fetch(0) = DIRTY
            reset() = 1
            pick(2) = 2
            fetch(6) = BAD
            fetch(0) = DIRTY
            """);
    }

    private static void fetchAtHand() {
        DOCUMENT.holds(38, "(If it is at hand, the work is that of its head then.)", GONE_BACK + """
            go(0) = 0
            size(0) = 0
            fetch(0) = 1
            size(0) = 1
            get(0, 1, 0) = 1
            commit() = NONE
            reset() = 0
            """);
        DOCUMENT.holds(38, "DIRTY: .. or it is the branch at hand and the work is not clean", GONE_BACK + """
            go(0) = 0
            put(2, 5, 5, 5, 5) = 1
            fetch(0) = DIRTY
            head(0) = 0
            drop(2, 5) = 1
            fetch(0) = 1
            put(2, 5, 5, 5, 5) = 1
            fetch(0) = DIRTY
            """);
        DOCUMENT.holds(38, "DIRTY: .. it is the branch at hand: another one may be fetched", GONE_BACK + """
            put(2, 5, 5, 5, 5) = 1
            fetch(0) = 1
            get(2, 5, 0) = 5
            size(0) = 0
            """);
        DOCUMENT.holds(38, "BUSY: it is the branch at hand and a merge is under way.", Begin.ONE_COMMIT + """
            send(0) = 1
            pick(1) = 2
            fetch(0) = BUSY
            merging() = true
            reset() = 1
            fetch(0) = 1, and nothing changes
            undo(1) = 2
            fetch(0) = DIRTY
            """);
        DOCUMENT.holds(38, "BUSY: it is the branch at hand: another one may be fetched", Begin.TWO_BRANCHES + """
            send(1) = 3
            merge(1) = 3
            fetch(1) = 3, and nothing changes
            close(1) = 3
            fetch(1) = 3
            head(1) = 3
            merging() = true
            settle(0, 2) = 1
            commit() = 4
            parent(4, 1) = 3
            """);
    }

    private static void fetchSixty() {
        DOCUMENT.holds(38, "commits that went here come back: 59 of them", "open(1) = 0\n" + Begin.commits(1, 59) + """
            send(0) = 59
            go(1) = 0
            close(0) = 59
            sweep() = 59
            ancestors(59) = BAD
            fetch(0) = 59
            ancestors(59) = 60
            ancestors(1) = 2
            stored() = 60
            parent(59, 0) = 58
            merge(0) = 1
            get(0, 1, 0) = 59
            put(0, 1, 60, 0, 0) = 0
            commit() = FULL
            """);
    }

    private static void there() {
        DOCUMENT.holds(39, "The head of a branch of the other store.", """
            open(5) = 0
            send(5) = 0
            there(5) = 0
            go(5) = 0
            put(0, 1, 1, 1, 1) = 1
            commit() = 1
            there(5) = 0
            send(5) = 1
            there(5) = 1
            go(0) = 0
            close(5) = 1
            sweep() = 1
            there(5) = 1
            """);
        DOCUMENT.holds(39, "BAD: there is none.", Script.each("there(#) = BAD", NO_BRANCH)
                + Script.range("there(#) = BAD", 0, 5) + """
            send(0) = 0
            there(0) = 0
            there(1) = BAD
            """);
    }

    private static void kept() {
        DOCUMENT.holds(40, "How many nodes (0) or commits (1) the other store has.", """
            kept(0) = 1
            kept(1) = 1
            """ + GONE_BACK + """
            kept(0) = 2
            kept(1) = 2
            stored() = 1
            put(2, 1, 1, 1, 1) = 1
            commit() = 2
            send(1) = 0
            kept(0) = 2
            kept(1) = 3
            """);
        DOCUMENT.holds(40, "BAD: another number.", Script.each("kept(#) = BAD", -1, 2, MIN, MAX));
    }
}
