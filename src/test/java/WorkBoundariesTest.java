/** The boundary cases of the promises 1 to 9, the work, and of the terms that they rest on. */
public final class WorkBoundariesTest {
    private static final int MIN = Integer.MIN_VALUE;
    private static final int MAX = Integer.MAX_VALUE;
    /** The first numbers on either side that are no table, and no column, and the last ones that an int has. */
    private static final int[] OUTSIDE = {-1, 3, MIN, MAX};

    private static final Sentences DOCUMENT = new Sentences("WorkBoundariesTest");

    public static void main(String[] args) {
        terms();
        newObject();
        put();
        cell();
        drop();
        fill();
        fillWraps();
        fillFull();
        get();
        size();
        kth();
        rank();
        DOCUMENT.haveAsked("put", "1", "0", "BAD", "BUSY", "FULL");
        DOCUMENT.haveAsked("cell", "1", "BAD", "BUSY", "NONE");
        DOCUMENT.haveAsked("drop", "1", "0", "BAD", "BUSY");
        DOCUMENT.haveAsked("fill", "0", "200", "BAD", "BUSY", "FULL");
        DOCUMENT.haveAsked("get", "NOTHING");
        DOCUMENT.haveAsked("size", "0", "200", "BAD");
        DOCUMENT.haveAsked("kth", "NOTHING");
        DOCUMENT.haveAsked("rank", "0", "200", "BAD");
        DOCUMENT.end();
    }

    private static void terms() {
        DOCUMENT.holds(0, "An object is used for at most 512 calls after it has been made", """
            fill(0, 0, 1, 100, 1) = 100
            """ + Script.range("put(1, #, #, #, #) = 1", 0, 199) + """
            put(1, 200, 0, 0, 0) = FULL
            """ + Script.range("get(1, #, 2) = #", 0, 199) + Script.range("cell(1, #, 0, 0) = 1", 0, 106) + """
            get(1, 106, 0) = 0
            commit() = 1
            head(0) = 1
            """);
        DOCUMENT.holds(0, "A ROW has a KEY (any int; keys are in order as numbers)", """
            put(0, 0, 1, 1, 1) = 1
            put(0, MAX, 2, 2, 2) = 1
            put(0, MIN, 3, 3, 3) = 1
            put(0, -1, 4, 4, 4) = 1
            put(0, 1, 5, 5, 5) = 1
            kth(0, 0) = MIN
            kth(0, 1) = -1
            kth(0, 2) = 0
            kth(0, 3) = 1
            kth(0, 4) = MAX
            """);
        DOCUMENT.holds(0, "three COLUMNS 0 .. 2 (any ints)", """
            put(0, 1, MIN, -1, MAX) = 1
            get(0, 1, 0) = MIN
            get(0, 1, 1) = -1
            get(0, 1, 2) = MAX
            put(0, 1, MAX, 0, MIN) = 0
            get(0, 1, 0) = MAX
            get(0, 1, 1) = 0
            get(0, 1, 2) = MIN
            """);
        DOCUMENT.holds(0, "A table has at most one row of a key, and at most 200 rows.", Begin.full(0) + """
            put(0, 0, 1, 1, 1) = 0
            size(0) = 200
            put(0, 200, 1, 1, 1) = FULL
            fill(0, 200, 1, 1, 1) = FULL
            size(0) = 200
            """ + Begin.full(1) + Begin.full(2) + """
            size(0) = 200
            commit() = 1
            """);
        DOCUMENT.holds(0, "There is a WORK, .. at first empty; it is CLEAN if it is that of the head", """
            commit() = NONE
            put(0, 1, 1, 1, 1) = 1
            drop(0, 1) = 1
            commit() = NONE
            put(2, 1, 1, 1, 1) = 1
            commit() = 1
            cell(2, 1, 2, 5) = 1
            cell(2, 1, 2, 1) = 1
            commit() = NONE
            drop(2, 1) = 1
            put(1, 1, 1, 1, 1) = 1
            commit() = 2
            """);
        DOCUMENT.holds(0, "While a merge is under way, only calls that say so change the work", Begin.CONFLICT + """
            put(0, 2, 1, 1, 1) = BUSY
            cell(0, 2, 0, 1) = BUSY
            drop(0, 2) = BUSY
            fill(0, 2, 1, 1, 1) = BUSY
            settle(0, 2) = 1
            put(0, 2, 1, 1, 1) = BUSY
            cell(0, 2, 0, 1) = BUSY
            drop(0, 2) = BUSY
            fill(0, 2, 1, 1, 1) = BUSY
            commit() = 4
            put(0, 2, 1, 1, 1) = 0
            """);
    }

    private static void newObject() {
        DOCUMENT.holds(1, "Commit 0", """
            head(0) = 0
            ancestors(0) = 1
            parent(0, 0) = NONE
            parent(0, 1) = NONE
            ancestors(1) = BAD
            base(0, 0) = 0
            """);
        DOCUMENT.holds(1, "branch 0 at hand", """
            head(0) = 0
            head(1) = BAD
            head(5) = BAD
            close(0) = BAD
            go(0) = 0
            put(0, 1, 1, 1, 1) = 1
            commit() = 1
            head(0) = 1
            """);
        DOCUMENT.holds(1, "all tables empty.", """
            size(0) = 0
            size(1) = 0
            size(2) = 0
            root(0, 0) = 1
            root(0, 2) = 1
            root(NONE, 0) = 1
            root(NONE, 2) = 1
            stored() = 1
            reset() = 0, and nothing changes
            commit() = NONE
            """);
    }

    private static void put() {
        DOCUMENT.holds(2, "1 if there was none of that key, else 0.", """
            put(0, MIN, 1, 2, 3) = 1
            put(0, MIN, 4, 5, 6) = 0
            put(0, MAX, 1, 2, 3) = 1
            put(0, MAX, 1, 2, 3) = 0, and nothing changes
            get(0, MIN, 0) = 4
            get(0, MIN, 2) = 6
            get(0, MAX, 1) = 2
            drop(0, MIN) = 1
            put(0, MIN, 1, 2, 3) = 1
            put(1, MIN, 1, 2, 3) = 1
            size(0) = 2
            """);
        DOCUMENT.holds(2, "BAD: no such table", """
            put(0, 1, 1, 1, 1) = 1
            put(2, 1, 1, 1, 1) = 1
            """ + Script.each("put(#, 2, 1, 1, 1) = BAD", OUTSIDE));
        DOCUMENT.holds(2, "BUSY", Begin.MERGE_CLEAN + """
            put(0, 1, 10, 20, 30) = BUSY
            put(0, 9, 1, 1, 1) = BUSY
            reset() = 1
            put(0, 9, 1, 1, 1) = 1
            """);
        DOCUMENT.holds(2, "FULL: there are 200 rows, and none of that key.", """
            fill(0, 0, 2, 100, 1) = 100
            fill(0, 200, 2, 99, 1) = 199
            put(0, 398, 1, 1, 1) = 1
            put(0, 400, 1, 1, 1) = FULL
            put(0, -1, 1, 1, 1) = FULL
            put(0, 199, 1, 1, 1) = FULL
            put(0, MIN, 1, 1, 1) = FULL
            put(0, MAX, 1, 1, 1) = FULL
            put(0, 0, 7, 7, 7) = 0
            put(0, 398, 7, 7, 7) = 0
            put(1, 199, 1, 1, 1) = 1
            drop(0, 0) = 1
            put(0, 400, 1, 1, 1) = 1
            put(0, 0, 1, 1, 1) = FULL
            """);
        DOCUMENT.holds(2, Sentences.FIRST_NAMED, Begin.full(0) + """
            commit() = 1
            pick(1) = 2
            put(3, 500, 1, 1, 1) = BAD
            put(-1, 500, 1, 1, 1) = BAD
            put(0, 500, 1, 1, 1) = BUSY
            reset() = 1
            put(3, 500, 1, 1, 1) = BAD
            put(0, 500, 1, 1, 1) = FULL
            """);
    }

    private static void cell() {
        DOCUMENT.holds(3, "Column c of a row becomes v: 1.", """
            put(2, MIN, 1, 2, 3) = 1
            put(2, MAX, 4, 5, 6) = 1
            cell(2, MIN, 0, MAX) = 1
            cell(2, MAX, 2, MIN) = 1
            cell(2, MAX, 1, 5) = 1, and nothing changes
            get(2, MIN, 0) = MAX
            get(2, MIN, 1) = 2
            get(2, MAX, 2) = MIN
            get(2, MAX, 0) = 4
            """);
        DOCUMENT.holds(3, "BAD: no such table or column", Begin.ONE_COMMIT
                + Script.each("cell(#, 1, 0, 5) = BAD", OUTSIDE) + Script.each("cell(0, 1, #, 5) = BAD", OUTSIDE) + """
            cell(0, 1, 0, 5) = 1
            cell(0, 1, 2, 5) = 1
            """);
        DOCUMENT.holds(3, "BUSY", Begin.MERGE_CLEAN + """
            cell(0, 1, 0, 5) = BUSY
            cell(0, 1, 0, 10) = BUSY
            reset() = 1
            cell(0, 1, 0, 5) = 1
            """);
        DOCUMENT.holds(3, "NONE: no row has that key.", """
            cell(0, 1, 0, 5) = NONE
            put(0, 1, 1, 1, 1) = 1
            cell(0, 0, 0, 5) = NONE
            cell(0, 2, 0, 5) = NONE
            cell(1, 1, 0, 5) = NONE
            drop(0, 1) = 1
            cell(0, 1, 0, 5) = NONE
            """);
        DOCUMENT.holds(3, Sentences.FIRST_NAMED, Begin.MERGE_CLEAN + """
            cell(3, 9, 0, 5) = BAD
            cell(0, 9, 3, 5) = BAD
            cell(0, 9, 0, 5) = BUSY
            reset() = 1
            cell(3, 9, 0, 5) = BAD
            cell(0, 9, -1, 5) = BAD
            cell(0, 9, 0, 5) = NONE
            """);
    }

    private static void drop() {
        DOCUMENT.holds(4, "The row of a key goes: 1", Begin.full(0) + """
            drop(0, 0) = 1
            drop(0, 199) = 1
            drop(0, 100) = 1
            size(0) = 197
            kth(0, 0) = 1
            kth(0, 196) = 198
            kth(0, 98) = 99
            kth(0, 99) = 101
            put(1, 5, 1, 1, 1) = 1
            drop(1, 5) = 1
            size(1) = 0
            root(NONE, 1) = 1
            """);
        DOCUMENT.holds(4, "0 when there is none.", """
            drop(0, 0) = 0, and nothing changes
            put(0, 5, 1, 1, 1) = 1
            drop(0, 4) = 0, and nothing changes
            drop(0, 6) = 0, and nothing changes
            drop(1, 5) = 0, and nothing changes
            drop(0, 5) = 1
            drop(0, 5) = 0, and nothing changes
            """ + Begin.full(2) + """
            drop(2, -1) = 0, and nothing changes
            drop(2, 200) = 0, and nothing changes
            """);
        DOCUMENT.holds(4, "BAD: no such table", Begin.ONE_COMMIT + Script.each("drop(#, 1) = BAD", OUTSIDE) + """
            drop(0, 1) = 1
            put(2, 1, 1, 1, 1) = 1
            drop(2, 1) = 1
            """);
        DOCUMENT.holds(4, "BUSY.", Begin.MERGE_CLEAN + """
            drop(0, 1) = BUSY
            drop(0, 9) = BUSY
            drop(3, 1) = BAD
            reset() = 1
            drop(0, 9) = 0
            drop(0, 1) = 1
            """);
    }

    private static void fill() {
        DOCUMENT.holds(5, "for each, in order, seed becomes .. column 0, then anew for column 1, then for column 2", """
            fill(0, 0, 1, 2, 0) = 2
            get(0, 0, 0) = 1013904223
            get(0, 0, 1) = 1196435762
            get(0, 0, 2) = -775096599
            get(0, 1, 0) = -1426500812
            get(0, 1, 1) = 1649599747
            get(0, 1, 2) = -1624324474
            """);
        DOCUMENT.holds(5, "rows that are there get these columns", """
            put(0, 1, 1, 1, 1) = 1
            put(0, 2, 2, 2, 2) = 1
            fill(0, 0, 1, 2, 0) = 3
            get(0, 1, 0) = -1426500812
            get(0, 2, 0) = 2
            """);
        DOCUMENT.holds(5, "How many rows the table has then.", """
            fill(2, 5, 1, 0, 9) = 0, and nothing changes
            fill(2, 5, 1, 1, 9) = 1
            fill(2, 5, 1, 2, 9) = 2
            fill(2, 0, 1, 0, 9) = 2, and nothing changes
            fill(2, 5, 1, 2, 9) = 2, and nothing changes
            """);
        DOCUMENT.holds(5, "BAD: no such table", Script.each("fill(#, 0, 1, 1, 1) = BAD", OUTSIDE) + """
            fill(0, 0, 1, 1, 1) = 1
            fill(2, 0, 1, 1, 1) = 1
            """);
        DOCUMENT.holds(5, "n is not 0 .. 100", Script.each("fill(0, 0, 1, #, 1) = BAD", -1, 101, MIN, MAX) + """
            fill(0, 0, 1, 0, 1) = 0
            fill(0, 0, 1, 100, 1) = 100
            fill(0, 0, 1, 101, 1) = BAD
            fill(0, 0, 1, -1, 1) = BAD
            size(0) = 100
            kth(0, 99) = 99
            """);
        DOCUMENT.holds(5, "or step is 0", """
            fill(0, 5, 0, 1, 1) = BAD
            fill(0, 5, 0, 0, 1) = BAD
            fill(0, 5, 0, 100, 1) = BAD
            fill(0, 5, 1, 2, 1) = 2
            fill(0, 5, -1, 3, 1) = 4
            kth(0, 0) = 3
            kth(0, 3) = 6
            """);
        DOCUMENT.holds(5, "BUSY", Begin.MERGE_CLEAN + """
            fill(0, 1, 1, 3, 1) = BUSY
            fill(0, 1, 1, 0, 1) = BUSY
            reset() = 1
            fill(0, 1, 1, 4, 1) = 4
            """);
        DOCUMENT.holds(5, Sentences.FIRST_NAMED, Begin.full(0) + """
            commit() = 1
            pick(1) = 2
            fill(3, 500, 1, 100, 1) = BAD
            fill(0, 500, 1, 101, 1) = BAD
            fill(0, 500, 0, 100, 1) = BAD
            fill(0, 500, 1, 100, 1) = BUSY
            reset() = 1
            fill(3, 500, 1, 100, 1) = BAD
            fill(0, 500, 1, 101, 1) = BAD
            fill(0, 500, 0, 100, 1) = BAD
            fill(0, 500, 1, 100, 1) = FULL
            """);
    }

    private static void fillWraps() {
        DOCUMENT.holds(5, "Rows get the keys from, from + step, .., n of them (wrapping)", """
            fill(0, MAX, 1, 3, 0) = 3
            kth(0, 0) = MIN
            kth(0, 1) = -2147483647
            kth(0, 2) = MAX
            get(0, MAX, 0) = 1013904223
            get(0, MIN, 0) = -1426500812
            fill(1, MIN, -1, 2, 0) = 2
            kth(1, 0) = MIN
            kth(1, 1) = MAX
            get(1, MAX, 0) = -1426500812
            fill(2, 1, MAX, 3, 0) = 3
            kth(2, 0) = MIN
            kth(2, 1) = -1
            kth(2, 2) = 1
            """);
        DOCUMENT.holds(5, "n of them (wrapping): keys that come again", """
            fill(0, 0, MIN, 3, 1) = 2
            kth(0, 0) = MIN
            kth(0, 1) = 0
            get(0, 0, 0) = -967385710
            get(0, 0, 2) = 70837908
            get(0, MIN, 0) = -1267516731
            fill(1, 5, 67108864, 64, 1) = 64
            fill(1, 5, 67108864, 65, 2) = 64
            fill(1, 5, 67108864, 100, 3) = 64
            fill(1, 6, 33554432, 100, 1) = 164
            fill(2, -1, 1073741824, 100, 1) = 4
            fill(2, -1, -1073741824, 100, 1) = 4
            """);
        DOCUMENT.holds(5, "(wrapping) and is column 0", """
            fill(0, 0, 1, 1, MAX) = 1
            get(0, 0, 0) = -1135243950
            get(0, 0, 1) = -1340617591
            get(0, 0, 2) = -1568412588
            fill(0, 0, 1, 1, MIN) = 1
            get(0, 0, 0) = -1133579425
            get(0, 0, 2) = 1372387049
            fill(0, 0, 1, 1, -1) = 1
            get(0, 0, 0) = 1012239698
            get(0, 0, 2) = 579071060
            """);
    }

    private static void fillFull() {
        DOCUMENT.holds(5, "FULL, and nothing is done: there would be more than 200.", """
            fill(0, 0, 1, 100, 1) = 100
            fill(0, 100, 1, 99, 1) = 199
            fill(0, 199, 1, 2, 5) = FULL
            fill(0, 100, 1, 100, 5) = 200
            fill(0, 200, 1, 1, 5) = FULL
            fill(0, 101, 1, 100, 6) = FULL
            fill(0, 150, 1, 50, 7) = 200
            fill(0, 150, 1, 51, 8) = FULL
            fill(0, -1, 1, 100, 8) = FULL
            fill(0, 500, 1, 0, 8) = 200, and nothing changes
            fill(1, 0, 1, 100, 8) = 100
            """);
        DOCUMENT.holds(5, "there would be more than 200: a key that comes again counts once", """
            fill(0, 0, 1, 100, 1) = 100
            fill(0, 100, 1, 98, 1) = 198
            fill(0, 1000, 1073741824, 100, 5) = FULL
            fill(0, 1000, MIN, 100, 5) = 200
            fill(0, 1000, MIN, 100, 6) = 200
            fill(0, 1000, 1073741824, 2, 5) = FULL
            fill(0, 1000, 1073741824, 1, 5) = 200
            drop(0, 0) = 1
            fill(0, 1001, MIN, 100, 6) = FULL
            fill(0, 1001, MIN, 1, 6) = 200
            """);
    }

    private static void get() {
        DOCUMENT.holds(6, "NOTHING when there is no such table", Begin.ONE_COMMIT
                + Script.each("get(#, 1, 0) = NOTHING", OUTSIDE) + """
            get(0, 1, 0) = 10
            put(2, 1, 5, 6, 7) = 1
            get(2, 1, 2) = 7
            """);
        DOCUMENT.holds(6, "NOTHING when there is no such .. column", Begin.ONE_COMMIT
                + Script.each("get(0, 1, #) = NOTHING", OUTSIDE) + """
            get(0, 1, 0) = 10
            get(0, 1, 1) = 20
            get(0, 1, 2) = 30
            """);
        DOCUMENT.holds(6, "NOTHING when there is no such .. row.", """
            get(0, 0, 0) = NOTHING
            put(0, 5, 1, 1, 1) = 1
            get(0, 4, 0) = NOTHING
            get(0, 6, 0) = NOTHING
            get(0, 5, 0) = 1
            get(1, 5, 0) = NOTHING
            drop(0, 5) = 1
            get(0, 5, 0) = NOTHING
            """ + Begin.full(0) + """
            get(0, -1, 0) = NOTHING
            get(0, 200, 0) = NOTHING
            get(0, MIN, 0) = NOTHING
            get(0, MAX, 0) = NOTHING
            get(0, 0, 0) = 1015568748
            get(0, 0, 2) = -2129264258
            """);
    }

    private static void size() {
        DOCUMENT.holds(7, "How many rows table t of the work has.", """
            size(0) = 0
            put(0, 1, 1, 1, 1) = 1
            size(0) = 1
            drop(0, 1) = 1
            size(0) = 0
            """ + Begin.full(2) + """
            size(2) = 200
            size(1) = 0
            commit() = 1
            drop(2, 0) = 1
            size(2) = 199
            reset() = 1
            size(2) = 200
            """);
        DOCUMENT.holds(7, "BAD: no such table.", Script.each("size(#) = BAD", OUTSIDE)
                + Script.range("size(#) = 0", 0, 2));
    }

    private static void kth() {
        DOCUMENT.holds(8, "The k-th least key (from 0)", Begin.full(1) + """
            kth(1, 0) = 0
            kth(1, 1) = 1
            kth(1, 199) = 199
            kth(1, 200) = NOTHING
            kth(1, -1) = NOTHING
            """);
        DOCUMENT.holds(8, "NOTHING when there is none.", """
            kth(0, 0) = NOTHING
            put(0, -1, 1, 1, 1) = 1
            kth(0, 0) = -1
            kth(0, 1) = NOTHING
            kth(0, -1) = NOTHING
            kth(0, MIN) = NOTHING
            kth(0, MAX) = NOTHING
            """ + Script.each("kth(#, 0) = NOTHING", OUTSIDE) + """
            kth(2, 0) = NOTHING
            drop(0, -1) = 1
            kth(0, 0) = NOTHING
            """);
    }

    private static void rank() {
        DOCUMENT.holds(9, "How many keys of table t of the work are less than a key.", """
            rank(0, MIN) = 0
            rank(0, MAX) = 0
            put(0, MIN, 1, 1, 1) = 1
            put(0, MAX, 1, 1, 1) = 1
            put(0, 0, 1, 1, 1) = 1
            rank(0, MIN) = 0
            rank(0, -2147483647) = 1
            rank(0, -1) = 1
            rank(0, 0) = 1
            rank(0, 1) = 2
            rank(0, 2147483646) = 2
            rank(0, MAX) = 2
            """ + Begin.full(2) + """
            rank(2, -1) = 0
            rank(2, 0) = 0
            rank(2, 1) = 1
            rank(2, 127) = 127
            rank(2, 128) = 128
            rank(2, 129) = 129
            rank(2, 199) = 199
            rank(2, 200) = 200
            rank(2, MAX) = 200
            """);
        DOCUMENT.holds(9, "BAD: no such table.", Script.each("rank(#, 0) = BAD", OUTSIDE)
                + Script.range("rank(#, 0) = 0", 0, 2));
    }
}
