/**
 * The boundary cases of the promises 10 to 15, trees, and of the terms that they rest on. The hashes and the
 * seeds that lead to a certain cut were found with a program apart from this one, in another language.
 */
public final class TreeBoundariesTest {
    private static final int MIN = Integer.MIN_VALUE;
    private static final int MAX = Integer.MAX_VALUE;
    private static final int[] NO_TABLE = {-1, 3, MIN, MAX};
    /** While 0 alone is there; -1 is the work. 64 and 128 would be 0 to a shift that only counts its lowest bits. */
    private static final int[] NO_COMMIT = {-2, 1, 59, 60, 64, 128, MIN, MAX};

    /** 43 rows make 10 nodes, and so one node above them; 44 make 11, and so two and another level. */
    private static final String TEN_NODES = "fill(0, 0, 1, 43, 14) = 43\n";
    private static final String ELEVEN_NODES = "fill(0, 0, 1, 44, 14) = 44\n";

    private static final Sentences DOCUMENT = new Sentences("TreeBoundariesTest");

    public static void main(String[] args) {
        emptyTable();
        lastOfTheLevel();
        tenEntries();
        twoEntries();
        roll();
        hash();
        sameHash();
        levels();
        root();
        height();
        nodes();
        node();
        nodeOutside();
        shared();
        stored();
        DOCUMENT.haveAsked("root", "0", "1");
        DOCUMENT.haveAsked("height", "1", "BAD");
        DOCUMENT.haveAsked("nodes", "1", "BAD");
        DOCUMENT.haveAsked("node", "0", "NOTHING");
        DOCUMENT.haveAsked("shared", "0", "BAD");
        DOCUMENT.haveAsked("stored", "1");
        DOCUMENT.end();
    }

    private static void emptyTable() {
        String asked = """
            height(#, 0) = 1
            nodes(#, 0, 0) = 1
            node(#, 0, 0, 0, 0) = 0
            node(#, 0, 0, 0, 1) = 0
            node(#, 0, 0, 0, 2) = 1
            node(#, 0, 0, 0, 3) = NOTHING
            root(#, 0) = 1
            """;
        DOCUMENT.holds(0, "(A table without rows has one node without entries.)", Script.each(asked, -1, 0) + """
            put(0, 1, 1, 1, 1) = 1
            commit() = 1
            drop(0, 1) = 1
            """ + Script.each(asked, -1) + """
            commit() = 2
            """ + Script.each(asked, -1, 2));
    }

    private static void lastOfTheLevel() {
        DOCUMENT.holds(0, "a node ends behind an entry if that is the last one of the level", """
            fill(0, 0, 1, 1, 44) = 1
            nodes(NONE, 0, 0) = 1
            node(NONE, 0, 0, 0, 0) = 1
            fill(0, 0, 1, 9, 44) = 9
            nodes(NONE, 0, 0) = 1
            node(NONE, 0, 0, 0, 0) = 9
            fill(0, 0, 1, 11, 44) = 11
            nodes(NONE, 0, 0) = 2
            node(NONE, 0, 0, 1, 0) = 1
            fill(0, 0, 1, 12, 44) = 12
            nodes(NONE, 0, 0) = 2
            node(NONE, 0, 0, 1, 0) = 2
            """);
    }

    private static void tenEntries() {
        DOCUMENT.holds(0, "or it has 10 entries", """
            fill(0, 0, 1, 10, 44) = 10
            height(NONE, 0) = 1
            nodes(NONE, 0, 0) = 1
            node(NONE, 0, 0, 0, 0) = 10
            fill(0, 0, 1, 11, 44) = 11
            height(NONE, 0) = 2
            nodes(NONE, 0, 0) = 2
            node(NONE, 0, 0, 0, 0) = 10
            node(NONE, 0, 0, 1, 0) = 1
            """);
        DOCUMENT.holds(0, "or it has 10 entries: on a level above the rows", TEN_NODES + """
            nodes(NONE, 0, 0) = 10
            nodes(NONE, 0, 1) = 1
            node(NONE, 0, 1, 0, 0) = 10
            """ + ELEVEN_NODES + """
            nodes(NONE, 0, 0) = 11
            nodes(NONE, 0, 1) = 2
            node(NONE, 0, 1, 0, 0) = 10
            node(NONE, 0, 1, 1, 0) = 1
            """);
        // The roll of the first 10 entries ends on two bits 0, as the limit of 10 would have it anyhow.
        DOCUMENT.holds(0, "or it has 10 entries; or .. its ROLL: both at once", """
            fill(0, 0, 1, 20, 0) = 20
            nodes(NONE, 0, 0) = 5
            node(NONE, 0, 0, 0, 0) = 10
            node(NONE, 0, 0, 1, 0) = 2
            node(NONE, 0, 0, 2, 0) = 3
            node(NONE, 0, 0, 3, 0) = 2
            node(NONE, 0, 0, 4, 0) = 3
            """);
    }

    private static void twoEntries() {
        // With seed 0 the roll of one entry alone ends on two bits 0; with 7 that of one and that of two do.
        DOCUMENT.holds(0, "or it has 2 or more: one is too few", """
            fill(0, 0, 1, 3, 0) = 3
            nodes(NONE, 0, 0) = 1
            node(NONE, 0, 0, 0, 0) = 3
            fill(1, 0, 1, 2, 7) = 2
            nodes(NONE, 1, 0) = 1
            node(NONE, 1, 0, 0, 0) = 2
            """);
        DOCUMENT.holds(0, "or it has 2 or more: two are enough", """
            fill(1, 0, 1, 3, 7) = 3
            nodes(NONE, 1, 0) = 2
            node(NONE, 1, 0, 0, 0) = 2
            node(NONE, 1, 0, 1, 0) = 1
            fill(2, 0, 1, 3, 8) = 3
            nodes(NONE, 2, 0) = 2
            node(NONE, 2, 0, 0, 0) = 2
            """);
        DOCUMENT.holds(0, "or it has 2 or more: nine", """
            fill(0, 0, 1, 9, 31) = 9
            nodes(NONE, 0, 0) = 1
            fill(0, 0, 1, 10, 31) = 10
            nodes(NONE, 0, 0) = 2
            node(NONE, 0, 0, 0, 0) = 9
            node(NONE, 0, 0, 1, 0) = 1
            """);
    }

    private static void roll() {
        DOCUMENT.holds(0, "THE ROLL of a node is 0 at first", """
            fill(0, 0, 1, 20, 7) = 20
            nodes(NONE, 0, 0) = 5
            node(NONE, 0, 0, 0, 0) = 2
            node(NONE, 0, 0, 1, 0) = 5
            node(NONE, 0, 0, 2, 0) = 3
            node(NONE, 0, 0, 3, 0) = 5
            node(NONE, 0, 0, 4, 0) = 5
            nodes(NONE, 0, 1) = 2
            node(NONE, 0, 1, 0, 0) = 3
            node(NONE, 0, 1, 1, 0) = 2
            root(NONE, 0) = -6812077110036946667
            """);
        // Were byte 24 not the first that has a byte 24 before it, seed 0 would cut behind 2 rows and 7 would not.
        DOCUMENT.holds(0, "if 24 or more bytes of the node came before that one", """
            fill(0, 16777216, 1, 3, 0) = 3
            nodes(NONE, 0, 0) = 1
            fill(1, 16777216, 1, 3, 7) = 3
            nodes(NONE, 1, 0) = 2
            node(NONE, 1, 0, 0, 0) = 2
            root(NONE, 1) = -8289742432600797840
            """);
    }

    private static void hash() {
        DOCUMENT.holds(0, "THE HASH of a node on level n: h is n + 1", """
            root(NONE, 0) = 1
            put(0, 5, 1, 2, 3) = 1
            root(NONE, 0) = -7482626872508218835
            fill(1, 0, 1, 3, 7) = 3
            node(NONE, 1, 0, 0, 2) = -7941862415483372742
            node(NONE, 1, 0, 1, 2) = 4389103079312300916
            root(NONE, 1) = 695213811740730575
            """);
        DOCUMENT.holds(0, "b 0 .. 255 .. ints that wrap .. longs that wrap", """
            put(0, 0, 0, 0, 0) = 1
            root(NONE, 0) = 8371866890579692475
            put(0, -1, -1, -1, -1) = 1
            root(NONE, 0) = 9173193509212605848
            drop(0, 0) = 1
            root(NONE, 0) = -7110286893983067683
            put(1, MIN, MAX, MIN, MAX) = 1
            put(1, MAX, MIN, MAX, MIN) = 1
            root(NONE, 1) = -4817924820988818525
            """);
        DOCUMENT.holds(0, "an entry's 16 bytes are its key and columns 0, 1, 2, four bytes each, the highest first", """
            put(0, 2139160320, 16744575, -2139095296, 16909060) = 1
            put(0, 2139160321, 16744575, -2139095296, 16909060) = 1
            root(NONE, 0) = 8110357905088836579
            """);
        DOCUMENT.holds(0, "Two nodes are THE SAME if they lie on the same level", ELEVEN_NODES + """
            node(NONE, 0, 0, 10, 1) = 1
            node(NONE, 0, 0, 10, 3) = 43
            node(NONE, 0, 1, 1, 1) = 1
            node(NONE, 0, 1, 1, 3) = 43
            shared(NONE, NONE, 0) = 14
            stored() = 15
            commit() = 1
            stored() = 15
            send(0) = 14
            drop(0, 0) = 1
            shared(NONE, 1, 0) = 9
            """);
    }

    /**
     * Two rows of key 1000 whose nodes have the same hash; a search found them, in another language. Behind the
     * rows 1 and 2, which are a node of their own, each stands alone, and the nodes above have the same hash too.
     */
    private static void sameHash() {
        DOCUMENT.holds(0, "Two nodes are THE SAME if .. the same rows are below them: not if their hashes are alike", """
            put(0, 1000, 1576027199, -633362364, 0) = 1
            root(NONE, 0) = -9160175381406985677
            commit() = 1
            put(0, 1000, 853403370, 1607616256, 0) = 0
            root(NONE, 0) = -9160175381406985677
            shared(NONE, 1, 0) = 0
            shared(1, NONE, 0) = 0
            shared(NONE, NONE, 0) = 1
            stored() = 3
            go(0) = DIRTY
            commit() = 2
            root(2, 0) = -9160175381406985677
            shared(1, 2, 0) = 0
            stored() = 3
            diff(1, 2, 0) = 1
            diffKind(0) = 11
            send(0) = 2
            kept(0) = 3
            undo(2) = 2
            get(0, 1000, 0) = 1576027199
            """);
        DOCUMENT.holds(0, "Two nodes are THE SAME if .. the same rows are below them: not if their entries are alike", """
            put(0, 1, 0, 5, 0) = 1
            put(0, 2, 0, 0, 0) = 1
            put(0, 1000, 1576027199, -633362364, 0) = 1
            nodes(NONE, 0, 0) = 2
            root(NONE, 0) = 2115503447052365257
            commit() = 1
            send(0) = 3
            put(0, 1000, 853403370, 1607616256, 0) = 0
            root(NONE, 0) = 2115503447052365257
            shared(NONE, 1, 0) = 1
            stored() = 6
            commit() = 2
            root(2, 0) = 2115503447052365257
            shared(1, 2, 0) = 1
            shared(2, 1, 0) = 1
            stored() = 6
            send(0) = 2
            kept(0) = 6
            """);
        DOCUMENT.holds(15, "of the same ones one: not of those whose hashes are alike, in three tables", """
            put(0, 1000, 1576027199, -633362364, 0) = 1
            put(1, 1000, 853403370, 1607616256, 0) = 1
            stored() = 3
            put(2, 1000, 853403370, 1607616256, 0) = 1
            stored() = 3
            commit() = 1
            stored() = 3
            send(0) = 2
            cell(2, 1000, 2, 1) = 1
            stored() = 4
            """);
        DOCUMENT.holds(0, "if OURS and THEIRS are the same: not if their hashes are alike", """
            put(0, 1000, 0, 0, 0) = 1
            commit() = 1
            open(1) = 1
            put(0, 1000, 1576027199, -633362364, 0) = 0
            commit() = 2
            go(1) = 1
            put(0, 1000, 853403370, 1607616256, 0) = 0
            commit() = 3
            merge(0) = 3
            version(0, 1, 0) = 853403370
            version(0, 2, 0) = 1576027199
            settle(0, 2) = 1
            commit() = 4
            diff(3, 4, 0) = 1
            diffKind(0) = 11
            """);
    }

    private static void levels() {
        DOCUMENT.holds(0, "If a level has more than one node, the next one has an entry for each of these", """
            fill(0, 0, 1, 2, 7) = 2
            height(NONE, 0) = 1
            fill(0, 0, 1, 3, 7) = 3
            height(NONE, 0) = 2
            node(NONE, 0, 1, 0, 0) = 2
            """ + TEN_NODES + """
            height(NONE, 0) = 2
            root(NONE, 0) = -6111319396848572433
            """ + ELEVEN_NODES + """
            height(NONE, 0) = 3
            node(NONE, 0, 2, 0, 0) = 2
            node(NONE, 0, 2, 0, 1) = 44
            root(NONE, 0) = -2279048944540283802
            """);
        DOCUMENT.holds(0, "rows lie in trees whose shape hangs on the rows alone, whatever the way they came", """
            fill(0, 43, -1, 44, 5) = 44
            """ + ELEVEN_NODES + """
            root(NONE, 0) = -2279048944540283802
            fill(1, 0, 1, 100, 3) = 100
            """ + Script.range("drop(1, #) = 1", 44, 99) + """
            fill(1, 0, 1, 44, 14) = 44
            root(NONE, 1) = -2279048944540283802
            """);
    }

    private static void root() {
        DOCUMENT.holds(10, "in commit c (NONE: in the work)", """
            put(2, 5, 1, 2, 3) = 1
            root(NONE, 2) = -7482626872508218835
            root(0, 2) = 1
            root(1, 2) = 0
            commit() = 1
            root(1, 2) = -7482626872508218835
            drop(2, 5) = 1
            root(1, 2) = -7482626872508218835
            root(NONE, 2) = 1
            """);
        DOCUMENT.holds(10, "0 when there is no such commit", Script.each("root(#, 0) = 0", NO_COMMIT) + """
            root(0, 0) = 1
            """ + Begin.commits(1, 59) + """
            root(58, 1) = 1
            root(59, 1) = 1
            root(60, 1) = 0
            root(64, 1) = 0
            root(123, 1) = 0
            """);
        DOCUMENT.holds(10, "0 when there is no such .. table.",
                Script.each("root(0, #) = 0\nroot(NONE, #) = 0", NO_TABLE)
                + Script.range("root(0, #) = 1\nroot(NONE, #) = 1", 0, 2));
        DOCUMENT.holds(10, "0 when there is no such commit: one that went", Begin.TWO_BRANCHES + """
            close(1) = 3
            root(3, 2) = 1
            sweep() = 1
            root(3, 2) = 0
            root(2, 2) = 1
            """);
    }

    private static void height() {
        DOCUMENT.holds(11, "The HEIGHT of that tree (1 or more).", """
            height(NONE, 0) = 1
            height(0, 0) = 1
            """ + Begin.full(0) + """
            height(NONE, 0) = 5
            height(0, 0) = 1
            commit() = 1
            height(1, 0) = 5
            height(1, 1) = 1
            """);
        DOCUMENT.holds(11, "BAD: no such commit or table.", Script.each("height(#, 0) = BAD", NO_COMMIT)
                + Script.each("height(0, #) = BAD\nheight(NONE, #) = BAD", NO_TABLE)
                + Script.range("height(0, #) = 1", 0, 2) + Begin.commits(1, 59) + """
            height(59, 0) = 1
            height(60, 0) = BAD
            height(64, 0) = BAD
            """);
        DOCUMENT.holds(11, "BAD: no such commit: one that went", Begin.TWO_BRANCHES + """
            close(1) = 3
            sweep() = 1
            height(3, 0) = BAD
            height(2, 0) = 1
            """);
    }

    private static void nodes() {
        DOCUMENT.holds(12, "How many nodes that tree has on a level (0 that of the rows).", Begin.full(1) + """
            nodes(NONE, 1, 0) = 42
            nodes(NONE, 1, 1) = 10
            nodes(NONE, 1, 2) = 3
            nodes(NONE, 1, 3) = 2
            nodes(NONE, 1, 4) = 1
            nodes(NONE, 0, 0) = 1
            commit() = 1
            nodes(1, 1, 0) = 42
            nodes(1, 1, 4) = 1
            """);
        DOCUMENT.holds(12, "BAD: no such commit, table", Script.each("nodes(#, 0, 0) = BAD", NO_COMMIT)
                + Script.each("nodes(0, #, 0) = BAD\nnodes(NONE, #, 0) = BAD", NO_TABLE) + """
            nodes(0, 2, 0) = 1
            """);
        DOCUMENT.holds(12, "BAD: no such .. level.", """
            nodes(0, 0, 0) = 1
            nodes(0, 0, 1) = BAD
            nodes(0, 0, -1) = BAD
            """ + Begin.full(1) + """
            nodes(NONE, 1, 4) = 1
            nodes(NONE, 1, 5) = BAD
            nodes(NONE, 1, 8) = BAD
            nodes(NONE, 1, -1) = BAD
            nodes(NONE, 1, MIN) = BAD
            nodes(NONE, 1, MAX) = BAD
            commit() = 1
            nodes(1, 1, 4) = 1
            nodes(1, 1, 5) = BAD
            nodes(1, 1, -1) = BAD
            nodes(1, 1, MAX) = BAD
            """);
    }

    private static void node() {
        DOCUMENT.holds(13, "0 how many entries it has, 1 how many rows are below it, 2 its HASH, 3 the last key", """
            fill(0, 0, 1, 3, 7) = 3
            node(NONE, 0, 0, 0, 0) = 2
            node(NONE, 0, 0, 0, 1) = 2
            node(NONE, 0, 0, 0, 2) = -7941862415483372742
            node(NONE, 0, 0, 0, 3) = 1
            node(NONE, 0, 0, 1, 0) = 1
            node(NONE, 0, 0, 1, 1) = 1
            node(NONE, 0, 0, 1, 2) = 4389103079312300916
            node(NONE, 0, 0, 1, 3) = 2
            node(NONE, 0, 1, 0, 0) = 2
            node(NONE, 0, 1, 0, 1) = 3
            node(NONE, 0, 1, 0, 2) = 695213811740730575
            node(NONE, 0, 1, 0, 3) = 2
            """);
        DOCUMENT.holds(13, "3 the last key below it (NOTHING when it has no entry).", """
            node(NONE, 0, 0, 0, 3) = NOTHING
            node(0, 2, 0, 0, 3) = NOTHING
            put(0, MIN, 0, 0, 0) = 1
            node(NONE, 0, 0, 0, 3) = MIN
            put(0, -1, 0, 0, 0) = 1
            node(NONE, 0, 0, 0, 3) = -1
            put(1, MAX, 0, 0, 0) = 1
            node(NONE, 1, 0, 0, 3) = MAX
            drop(1, MAX) = 1
            node(NONE, 1, 0, 0, 3) = NOTHING
            """);
        DOCUMENT.holds(13, "the last key below it: at both ends of a full table", Begin.full(0) + """
            commit() = 1
            node(1, 0, 0, 41, 3) = 199
            node(1, 0, 4, 0, 3) = 199
            node(1, 0, 4, 0, 1) = 200
            node(1, 0, 4, 0, 0) = 2
            node(1, 0, 0, 42, 3) = 0
            node(1, 0, 4, 1, 3) = 0
            node(1, 0, 5, 0, 3) = 0
            """);
    }

    private static void nodeOutside() {
        String asked = "put(0, 9, 0, 0, 0) = 1\ncommit() = 1\nnode(1, 0, 0, 0, 3) = 9\n";
        DOCUMENT.holds(13, "0 when there is no such commit", asked
                + Script.each("node(#, 0, 0, 0, 3) = 0", -2, 2, 59, 60, 64, 65, MIN, MAX));
        DOCUMENT.holds(13, "0 when there is no such .. table", asked
                + Script.each("node(1, #, 0, 0, 3) = 0\nnode(NONE, #, 0, 0, 3) = 0", NO_TABLE));
        DOCUMENT.holds(13, "0 when there is no such .. level", asked
                + Script.each("node(1, 0, #, 0, 3) = 0\nnode(NONE, 0, #, 0, 3) = 0", -1, 1, 7, 8, 9, MIN, MAX));
        DOCUMENT.holds(13, "0 when there is no such .. node", asked
                + Script.each("node(1, 0, 0, #, 3) = 0\nnode(NONE, 0, 0, #, 3) = 0", -1, 1, 202, MIN, MAX));
        DOCUMENT.holds(13, "0 when there is no such .. what.", asked
                + Script.each("node(1, 0, 0, 0, #) = 0\nnode(NONE, 0, 0, 0, #) = 0", -1, 4, MIN, MAX));
        DOCUMENT.holds(13, "0 when there is no such commit: one that went", Begin.TWO_BRANCHES + """
            node(3, 1, 0, 0, 3) = 7
            close(1) = 3
            sweep() = 1
            node(3, 1, 0, 0, 3) = 0
            """);
    }

    private static void shared() {
        DOCUMENT.holds(14, "How many nodes .. are the same as some node of its tree in commit d", Begin.full(0) + """
            shared(NONE, NONE, 0) = 58
            shared(NONE, 0, 0) = 0
            shared(0, NONE, 0) = 0
            shared(0, 0, 0) = 1
            commit() = 1
            shared(1, 1, 0) = 58
            shared(NONE, 1, 0) = 58
            shared(1, NONE, 0) = 58
            shared(0, 1, 0) = 0
            shared(0, 1, 1) = 1
            cell(0, 199, 2, 0) = 1
            shared(NONE, 1, 0) = 53
            shared(1, NONE, 0) = 53
            """);
        DOCUMENT.holds(14, "BAD: no such commit", Script.each("shared(#, 0, 0) = BAD\nshared(0, #, 0) = BAD", NO_COMMIT)
                + """
            shared(0, 0, 0) = 1
            put(0, 1, 1, 1, 1) = 1
            commit() = 1
            shared(1, 1, 0) = 1
            shared(1, 2, 0) = BAD
            shared(2, 1, 0) = BAD
            """);
        DOCUMENT.holds(14, "BAD: no such commit: one that went", Begin.TWO_BRANCHES + """
            close(1) = 3
            shared(3, 2, 1) = 0
            sweep() = 1
            shared(3, 2, 1) = BAD
            shared(2, 3, 1) = BAD
            shared(3, NONE, 1) = BAD
            """);
        DOCUMENT.holds(14, "BAD: no such .. table.", Script.each("shared(0, 0, #) = BAD\nshared(NONE, NONE, #) = BAD",
                NO_TABLE) + Script.range("shared(0, 0, #) = 1\nshared(NONE, NONE, #) = 1", 0, 2));
    }

    private static void stored() {
        DOCUMENT.holds(15, "of the same ones one.", """
            stored() = 1
            put(0, 1, 1, 1, 1) = 1
            stored() = 2
            put(2, 1, 1, 1, 1) = 1
            stored() = 2
            put(1, 1, 1, 1, 1) = 1
            stored() = 2
            commit() = 1
            stored() = 2
            drop(0, 1) = 1
            drop(1, 1) = 1
            drop(2, 1) = 1
            stored() = 2
            commit() = 2
            stored() = 2
            """ + Begin.full(0) + """
            stored() = 60
            """ + Begin.full(2) + """
            stored() = 60
            """);
        DOCUMENT.holds(15, "of all commits that are there, and of the work", Begin.TWO_BRANCHES + """
            stored() = 5
            put(2, 8, 8, 8, 8) = 1
            stored() = 6
            put(2, 7, 7, 7, 7) = 1
            stored() = 6
            drop(2, 8) = 1
            stored() = 5
            close(1) = 3
            stored() = 5
            sweep() = 1
            stored() = 4
            drop(2, 7) = 1
            stored() = 3
            """);
        DOCUMENT.holds(15, "How many nodes there are in all trees of all commits: 60 of them",
                Begin.commits(1, 59) + """
            stored() = 60
            put(0, 1, 60, 0, 0) = 0
            stored() = 61
            commit() = FULL
            stored() = 61
            reset() = 1
            stored() = 60
            """);
        DOCUMENT.holds(15, "and of the work: while a merge is under way", Begin.CONFLICT + """
            stored() = 5
            settle(0, 0) = 1
            stored() = 5
            settle(0, 2) = 0
            stored() = 5
            """);
    }
}
