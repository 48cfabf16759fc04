import java.util.List;
import java.util.Set;
import java.util.TreeSet;

/**
 * Holds the class to single sentences of the document. Each has a script: its answers are written down by
 * hand and are asked of the class and of the model. Behind each refused call, and at the end of each script,
 * the state, as far as Probes asks for it, is compared with that of a model on which the refused call, or the
 * questions, were never made.
 */
final class Sentences {
    /** The sentence of the terms that each call with more than one refusal has to keep to. */
    static final String FIRST_NAMED = "Of several answers that fit the one that is named first is given.";

    private final String test;
    private final Set<String> answers = new TreeSet<>();
    private int count;
    private int compared;
    private int wrong;

    Sentences(String test) {
        this.test = test;
    }

    /** A sentence of a promise (0: of the terms) and the script that would show it broken. */
    void holds(int promise, String sentence, String script) {
        count++;
        String about = (promise == 0 ? "terms" : "promise " + promise) + ", \"" + sentence + "\"";
        List<Script.Step> steps = Script.stepsOf(script);
        if (steps.isEmpty() || steps.size() > Call.MOST) {
            tell(about + ": the script has " + steps.size() + " calls");
            return;
        }
        if (!answersAreDue(about, steps)) {
            return;
        }
        for (int i = 0; i < steps.size(); i++) {
            Script.Step step = steps.get(i);
            answers.add(step.call().name() + " " + step.told());
            if (step.isRefused() || step.staysSame()) {
                List<Call> before = callsOf(steps.subList(0, i));
                List<Call> with = callsOf(steps.subList(0, i + 1));
                compare(about + ": behind " + step.call(), with, before);
            }
        }
        List<Call> all = callsOf(steps);
        List<Call> changing = all.stream().filter(Call::isChanging).toList();
        compare(about + ": at the end", all, changing);
    }

    private boolean answersAreDue(String about, List<Script.Step> steps) {
        TreeVersions x = new TreeVersions();
        Model model = new Model();
        for (Script.Step step : steps) {
            long got = step.call().on(x);
            long second = step.call().on(model);
            if (step.due() == null ? got < 0 || got != second : got != step.due()) {
                tell(about + ": " + step.call() + " answered " + got + ", due is "
                        + (step.due() == null ? second : step.due()));
                return false;
            }
            if (got != second) {
                tell(about + ": " + step.call() + " of the model answered " + second + ", due is " + step.due());
                return false;
            }
        }
        return true;
    }

    private static List<Call> callsOf(List<Script.Step> steps) {
        return steps.stream().map(Script.Step::call).toList();
    }

    /** After its calls the class must be in the state that the model is in after other ones. */
    private void compare(String about, List<Call> calls, List<Call> modelCalls) {
        List<List<Call>> probes = Probes.of(after(new Model(), modelCalls), Call.MOST - calls.size());
        for (List<Call> probe : probes) {
            TreeVersions x = after(new TreeVersions(), calls);
            Model model = after(new Model(), modelCalls);
            for (Call asked : probe) {
                compared++;
                long got = asked.on(x);
                long want = asked.on(model);
                if (got != want) {
                    tell(about + " " + (probe.get(0).isChanging() ? probe.get(0) + " .. " : "") + asked + " answered "
                            + got + ", due is " + want);
                    return;
                }
            }
        }
    }

    private static <T> T after(T program, List<Call> calls) {
        for (Call call : calls) {
            call.on(program);
        }
        return program;
    }

    /** The answers of a call that some script must have asked for. */
    void haveAsked(String call, String... wanted) {
        for (String answer : wanted) {
            if (!answers.contains(call + " " + answer)) {
                tell("no script has " + call + "() answer " + answer);
            }
        }
    }

    private void tell(String text) {
        wrong++;
        System.out.println(test + ": " + text);
    }

    void end() {
        System.out.println(test + ": " + count + " sentences, " + compared + " answers compared behind them, "
                + (wrong == 0 ? "all as due" : wrong + " wrong"));
        System.exit(wrong == 0 ? 0 : 1);
    }
}
