import java.util.ArrayList;
import java.util.List;
import java.util.Map;
import java.util.regex.Matcher;
import java.util.regex.Pattern;

/**
 * A run of calls on a new object, told as a text with a call a line:
 *
 * <pre>
 * put(0, 5, 1, 2, 3) = 1
 * put(3, 5, 1, 2, 3) = BAD
 * drop(0, 9) = 0, and nothing changes
 * commit()
 * </pre>
 *
 * A call without an answer only leads to what is asked; it must not be refused. Behind a refused call
 * nothing may have changed; this goes without saying.
 */
final class Script {
    private static final Pattern LINE =
            Pattern.compile("(\\w+)\\(([^)]*)\\)(?: = ([\\w-]+))?(, and nothing changes)?");
    private static final Map<String, Long> NAMED = Map.of("NONE", -1L, "FULL", -2L, "BUSY", -3L, "DIRTY", -4L,
            "BAD", -5L, "NOTHING", 1L << 32, "MIN", (long) Integer.MIN_VALUE, "MAX", (long) Integer.MAX_VALUE,
            "false", 0L, "true", 1L);

    /**
     * A call, the answer that is due (null: any that is no refusal), as it is told and as a number, and whether
     * the call must change nothing.
     */
    record Step(Call call, String told, Long due, boolean staysSame) {
        boolean isRefused() {
            return call.isChanging() && due != null && due < 0;
        }
    }

    private Script() {
    }

    static List<Step> stepsOf(String text) {
        List<Step> steps = new ArrayList<>();
        text.lines().map(String::strip).filter(line -> !line.isEmpty()).forEach(line -> steps.add(stepOf(line)));
        return steps;
    }

    private static Step stepOf(String line) {
        Matcher found = LINE.matcher(line);
        if (!found.matches()) {
            throw new IllegalArgumentException("no such line: " + line);
        }
        String[] told = found.group(2).isBlank() ? new String[0] : found.group(2).split(",");
        int[] arguments = new int[told.length];
        for (int i = 0; i < told.length; i++) {
            arguments[i] = (int) valueOf(told[i].strip());
        }
        String due = found.group(3);
        return new Step(new Call(found.group(1), arguments), due, due == null ? null : Long.valueOf(valueOf(due)),
                found.group(4) != null);
    }

    private static long valueOf(String told) {
        Long named = NAMED.get(told);
        return named != null ? named : Long.parseLong(told);
    }

    /** The line once for each value, which stands where the line has a '#'. */
    static String each(String line, int... values) {
        StringBuilder text = new StringBuilder();
        for (int value : values) {
            text.append(line.replace("#", Integer.toString(value))).append('\n');
        }
        return text.toString();
    }

    /** As each(), for the values from .. to. */
    static String range(String line, int from, int to) {
        StringBuilder text = new StringBuilder();
        for (int value = from; value <= to; value++) {
            text.append(each(line, value));
        }
        return text.toString();
    }
}
