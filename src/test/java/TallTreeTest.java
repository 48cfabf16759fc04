import java.nio.ByteBuffer;

/**
 * The highest and widest tree that 200 rows can have: every node ends at two entries. Rows that come to that
 * are looked for here, by trying columns until each node that a row ends has a roll that fits.
 */
public final class TallTreeTest {
    private static final int ROWS = 200;
    private static final int[] NODES = {100, 50, 25, 13, 7, 4, 2, 1};
    private static final int ALL_NODES = 202;

    private static int wrong = 0;

    private static void due(String what, long got, long want) {
        if (got != want) {
            wrong++;
            System.out.println("tall tree: " + what + " answered " + got + ", due is " + want);
        }
    }

    public static void main(String[] args) {
        int[][] rows = tallRows();
        TreeVersions x = new TreeVersions();
        for (int[] row : rows) {
            due("put", x.put(1, row[0], row[1], row[2], row[3]), 1);
        }
        lookAt(x, TreeVersions.NONE);
        due("stored() of the work", x.stored(), 1 + ALL_NODES);
        due("commit()", x.commit(), 1);
        lookAt(x, 1);
        due("shared", x.shared(1, TreeVersions.NONE, 1), ALL_NODES);
        due("stored()", x.stored(), 1 + ALL_NODES);
        due("send", x.send(0), ALL_NODES);
        due("kept", x.kept(0), 1 + ALL_NODES);
        x.drop(1, 0);
        due("shared without the first row", x.shared(TreeVersions.NONE, 1, 1) < ALL_NODES ? 1 : 0, 1);
        System.out.println(wrong == 0 ? "TallTreeTest: all answers are as due" : "TallTreeTest: " + wrong + " wrong");
        System.exit(wrong == 0 ? 0 : 1);
    }

    private static void lookAt(TreeVersions x, int c) {
        due("height", x.height(c, 1), NODES.length);
        for (int level = 0; level < NODES.length; level++) {
            due("nodes on level " + level, x.nodes(c, 1, level), NODES[level]);
            due("entries of the first node", x.node(c, 1, level, 0, 0), 2);
            due("last key", x.node(c, 1, level, NODES[level] - 1, 3), ROWS - 1);
        }
        due("nodes behind the last level", x.nodes(c, 1, NODES.length), TreeVersions.BAD);
        due("rows below the root", x.node(c, 1, NODES.length - 1, 0, 1), ROWS);
        due("root", x.root(c, 1), x.node(c, 1, NODES.length - 1, 0, 2));
    }

    private static int[][] tallRows() {
        int[][] rows = new int[ROWS][];
        byte[][] waiting = new byte[NODES.length + 1][];
        for (int key = 0; key < ROWS; key++) {
            for (int c2 = 0; rows[key] == null; c2++) {
                byte[][] then = add(waiting, key, c2);
                if (then != null) {
                    waiting = then;
                    rows[key] = new int[] {key, 0, 0, c2};
                }
            }
        }
        return rows;
    }

    /** The entries that wait on each level for a second one, once a row has come; null if a roll is wrong. */
    private static byte[][] add(byte[][] waiting, int key, int c2) {
        byte[][] then = waiting.clone();
        byte[] entry = ByteBuffer.allocate(16).putInt(key).putInt(0).putInt(0).putInt(c2).array();
        int below = 2;
        for (int level = 0; then[level] != null; level++) {
            byte[] node = ByteBuffer.allocate(32).put(then[level]).put(entry).array();
            if ((roll(node) & 3) != 0) {
                return null;
            }
            entry = ByteBuffer.allocate(16).putInt(key).putLong(hash(level, node)).putInt(below).array();
            then[level] = null;
            below *= 2;
            if (then[level + 1] == null) {
                then[level + 1] = entry;
                return then;
            }
        }
        then[0] = entry;
        return then;
    }

    private static int roll(byte[] bytes) {
        int roll = 0;
        for (int i = 0; i < bytes.length; i++) {
            roll = Integer.rotateLeft(roll, 1) ^ ((bytes[i] & 255) + 1) * 0x9E3779B1;
            if (i >= 24) {
                roll ^= Integer.rotateLeft(((bytes[i - 24] & 255) + 1) * 0x9E3779B1, 24);
            }
        }
        return roll;
    }

    private static long hash(int level, byte[] bytes) {
        long h = level + 1;
        for (byte b : bytes) {
            h = Long.rotateLeft(h ^ (b & 255), 29) * 0xD6E8FEB86659FD93L;
        }
        return h;
    }
}
