import java.util.ArrayList;
import java.util.Arrays;
import java.util.List;
import java.util.Map;
import java.util.Random;
import java.util.TreeMap;

/**
 * Long runs of calls against a second, slow program that follows the document word by word. The seeds are
 * fixed, so every run of this test makes the same calls.
 */
public final class ModelTest {
    /** Behind so many calls of a run the whole state is looked at. */
    private static final int LOOKED_AT_WHOLE = 300;
    private static final int RUNS_PER_STYLE = 120;
    private static final String[] NAMES = {
        "put", "cell", "drop", "fill", "get", "size", "kth", "rank", "root", "height", "nodes", "node",
        "shared", "stored", "open", "go", "close", "head", "commit", "parent", "ancestors", "base", "reset",
        "sweep", "diff", "diffKey", "diffKind", "merge", "pick", "undo", "merging", "conflicts", "conflict",
        "version", "settle", "send", "fetch", "there", "kept"};

    /** How often each call is made, in the order of NAMES. */
    private static final int[] WEIGHTS = {
        40, 25, 18, 6, 4, 2, 3, 3, 6, 3, 4, 6,
        5, 4, 8, 22, 3, 2, 34, 3, 2, 4, 3,
        2, 6, 4, 4, 20, 9, 9, 2, 3, 5,
        6, 16, 7, 7, 2, 4};

    private static int wrong = 0;
    private static final Map<String, Integer> seenAnswers = new TreeMap<>();

    public static void main(String[] args) {
        for (int style = 0; style < Style.values().length; style++) {
            for (int seed = 0; seed < RUNS_PER_STYLE && wrong < 20; seed++) {
                run(Style.values()[style], seed);
            }
        }
        askForSeen();
        System.out.println(wrong == 0 ? "ModelTest: all answers are as due" : "ModelTest: " + wrong + " wrong");
        System.exit(wrong == 0 ? 0 : 1);
    }

    /**
     * How keys and columns are chosen: few of them bring conflicts, many bring high trees and full tables.
     * HASTY commits so often that the numbers run out.
     */
    private enum Style { TINY, HASTY, MIDDLE, LARGE }

    private static void run(Style style, int seed) {
        Random random = new Random(1000L * style.ordinal() + seed);
        TreeVersions x = new TreeVersions();
        Model m = new Model();
        List<Call> made = new ArrayList<>();
        while (made.size() < Call.MOST) {
            String name = NAMES[chooseOp(random, style)];
            Call call = new Call(name, arguments(name, random, style, m));
            made.add(call);
            if (!isSame(style + " seed " + seed, made, call, x, m)) {
                return;
            }
            if (made.size() == LOOKED_AT_WHOLE && !isSameInAll(style + " seed " + seed, made, m)) {
                return;
            }
        }
    }

    private static boolean isSame(String about, List<Call> made, Call call, TreeVersions x, Model m) {
        long want = call.on(m);
        long got = call.on(x);
        note(call.name(), want);
        if (got == want) {
            return true;
        }
        wrong++;
        System.out.println(about + " behind " + made.size() + " calls: " + call + " answered " + got
                + ", due is " + want);
        for (Call before : made.subList(Math.max(0, made.size() - 12), made.size())) {
            System.out.println("    " + before);
        }
        return false;
    }

    /**
     * Every table of every commit and of the work is looked at whole. These are more questions than an object
     * may be asked, so others that have had the same calls answer some of them each.
     */
    private static boolean isSameInAll(String about, List<Call> made, Model m) {
        List<Call> questions = new ArrayList<>();
        for (int c = -1; c <= m.made; c++) {
            for (int t = 0; t < 3; t++) {
                questions.add(new Call("root", c, t));
                questions.add(new Call("height", c, t));
            }
            questions.add(new Call("ancestors", c));
        }
        questions.addAll(List.of(new Call("stored"), new Call("kept", 0), new Call("kept", 1)));
        int atOnce = Call.MOST - made.size();
        TreeVersions x = null;
        for (int i = 0; i < questions.size(); i++) {
            if (i % atOnce == 0) {
                x = new TreeVersions();
                for (Call call : made) {
                    call.on(x);
                }
            }
            if (!isSame(about, made, questions.get(i), x, m)) {
                return false;
            }
        }
        return true;
    }

    private static void note(String name, long answer) {
        String kind = answer < 0 && answer >= -5 ? Long.toString(answer) : answer == 0 ? "0" : "more";
        seenAnswers.merge(name + " " + kind, 1, Integer::sum);
    }

    /** Runs that never come to an answer would say nothing about it. */
    private static void askForSeen() {
        String[] due = {"put -5", "put -3", "put -2", "put 0", "put more", "cell -5", "cell -3", "cell -1",
            "drop -5", "drop -3", "drop 0", "drop more", "fill -5", "fill -3", "fill -2", "fill more",
            "shared -5", "shared 0", "shared more", "open -5", "open -3", "open -1", "go -5", "go -3", "go -4",
            "close -5", "close more", "commit -3", "commit -1", "commit -2", "commit more", "sweep -3",
            "sweep 0", "sweep more", "reset 0", "reset more", "merge -5", "merge -3", "merge -4", "merge 0",
            "merge more", "merge -2", "pick -5", "pick -3", "pick -4", "pick more", "undo -5", "undo more",
            "settle -5", "settle 0", "settle more", "send -5", "send -4", "send more", "fetch -5", "fetch -4",
            "fetch -3", "fetch more"};
        for (String answer : due) {
            if (!seenAnswers.containsKey(answer)) {
                wrong++;
                System.out.println("no run came to: " + answer);
            }
        }
    }

    private static int chooseOp(Random random, Style style) {
        if (style == Style.HASTY && random.nextInt(2) == 0) {
            String[] hasty = {"put", "commit", "commit", "reset"};
            return Arrays.asList(NAMES).indexOf(hasty[random.nextInt(hasty.length)]);
        }
        int sum = 0;
        for (int weight : WEIGHTS) {
            sum += weight;
        }
        int left = random.nextInt(sum);
        for (int op = 0; op < WEIGHTS.length; op++) {
            left -= WEIGHTS[op];
            if (left < 0) {
                return op;
            }
        }
        return 0;
    }

    private static int[] arguments(String name, Random r, Style style, Model m) {
        int t = rarely(r) ? odd(r) : r.nextInt(style == Style.LARGE ? 2 : 3);
        int c = rarely(r) ? odd(r) : r.nextInt(3);
        int branch = rarely(r) ? odd(r) : r.nextInt(3);
        int commit = rarely(r) ? odd(r) : r.nextInt(m.made + 1) - (r.nextInt(4) == 0 ? 1 : 0);
        int commit2 = rarely(r) ? odd(r) : r.nextInt(m.made + 1) - (r.nextInt(4) == 0 ? 1 : 0);
        int key = key(r, style);
        int small = rarely(r) ? odd(r) : r.nextInt(6);
        switch (name) {
            case "put": return new int[] {t, key, value(r), value(r), value(r)};
            case "cell": return new int[] {t, key, c, value(r)};
            case "drop": case "rank": return new int[] {t, key};
            case "fill": return fillArguments(r, style, t);
            case "get": return new int[] {t, key, c};
            case "size": return new int[] {t};
            case "kth": return new int[] {t, small};
            case "root": case "height": return new int[] {commit, t};
            case "nodes": return new int[] {commit, t, small - 1};
            case "node": return new int[] {commit, t, r.nextInt(4), r.nextInt(6), r.nextInt(6) - 1};
            case "shared": case "diff": return new int[] {commit, commit2, t};
            case "open": case "go": case "close": case "head": case "merge": return new int[] {branch};
            case "send": case "fetch": case "there": return new int[] {branch};
            case "parent": return new int[] {commit, r.nextInt(4) - 1};
            case "ancestors": case "pick": case "undo": return new int[] {commit};
            case "base": return new int[] {commit, commit2};
            case "diffKey": case "diffKind": return new int[] {small};
            case "conflicts": return new int[] {r.nextInt(4) - 1};
            case "conflict": return new int[] {small, r.nextInt(5) - 1};
            case "version": return new int[] {small, r.nextInt(5) - 1, c};
            case "settle": return new int[] {r.nextInt(3), r.nextInt(8) == 0 ? odd(r) : r.nextInt(3)};
            case "kept": return new int[] {r.nextInt(3) - (r.nextInt(4) == 0 ? 1 : 0)};
            default: return new int[0];
        }
    }

    private static boolean rarely(Random r) {
        return r.nextInt(25) == 0;
    }

    private static int odd(Random r) {
        int[] values = {-1, -2, 3, 6, 59, 60, 63, 64, 65, 200, Integer.MAX_VALUE, Integer.MIN_VALUE};
        return values[r.nextInt(values.length)];
    }

    private static int key(Random r, Style style) {
        if (r.nextInt(20) == 0) {
            int[] ends = {Integer.MIN_VALUE, Integer.MAX_VALUE, -1, 0};
            return ends[r.nextInt(ends.length)];
        }
        switch (style) {
            case TINY: case HASTY: return r.nextInt(5);
            case MIDDLE: return 3 * r.nextInt(40) - 20;
            default: return r.nextInt(230);
        }
    }

    private static int value(Random r) {
        return r.nextInt(6) == 0 ? r.nextInt() : r.nextInt(3);
    }

    private static int[] fillArguments(Random r, Style style, int t) {
        boolean few = style == Style.TINY || style == Style.HASTY;
        int n = rarely(r) ? odd(r) : r.nextInt(few ? 6 : style == Style.MIDDLE ? 40 : 101);
        int step = r.nextInt(12) == 0 ? 1 << 24 + r.nextInt(8) : r.nextInt(20) == 0 ? odd(r) : r.nextInt(4);
        return new int[] {t, r.nextInt(few ? 4 : 150), step, n, r.nextInt(3)};
    }
}
