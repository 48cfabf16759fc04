import java.util.ArrayList;
import java.util.List;
import java.util.TreeSet;

/**
 * What can be asked about the state of an object: the questions, of long lists their ends and their middle, and
 * what each of the changing calls would answer and bring about. Each probe is a run of calls of its own, made
 * on an object of its own; one that is longer than the calls that are left is left out.
 */
final class Probes {
    /** Of a long list its ends, its middle and what lies behind it are looked at. */
    private static final int FEW = 6;

    private final Model state;
    private final List<List<Call>> probes = new ArrayList<>();

    private Probes(Model state) {
        this.state = state;
    }

    /** The probes of the state that the model is in, none of them longer than so many calls. */
    static List<List<Call>> of(Model state, int most) {
        Probes made = new Probes(state);
        made.cutInto(most, made.questions());
        made.addCommits();
        made.addBranches();
        made.addPicks();
        made.addSettles();
        made.probes.removeIf(probe -> probe.size() > most);
        return made.probes;
    }

    private static TreeSet<Integer> someOf(int n) {
        TreeSet<Integer> some = new TreeSet<>();
        for (int i = 0; i < Math.min(n, FEW); i++) {
            some.add(i);
            some.add(n - 1 - i);
        }
        some.add(n / 2);
        some.add(n);
        return some;
    }

    private static Call call(String name, int... arguments) {
        return new Call(name, arguments);
    }

    private void cutInto(int most, List<Call> calls) {
        for (int from = 0; from < calls.size() && most > 0; from += most) {
            probes.add(calls.subList(from, Math.min(calls.size(), from + most)));
        }
    }

    private List<Call> questions() {
        List<Call> asked = new ArrayList<>();
        for (int t = 0; t < 3; t++) {
            askRows(asked, t);
            for (int c : someOf(state.made)) {
                askTree(asked, c, t);
            }
            askTree(asked, -1, t);
            asked.add(call("shared", -1, state.head(state.atHand), t));
        }
        for (int c : someOf(state.made)) {
            asked.add(call("ancestors", c));
            asked.add(call("parent", c, 0));
            asked.add(call("parent", c, 1));
            asked.add(call("base", c, state.head(state.atHand)));
        }
        for (int branch = 0; branch < 6; branch++) {
            asked.add(call("head", branch));
            asked.add(call("there", branch));
        }
        for (int which = 0; which < 2; which++) {
            asked.add(call("kept", which));
            asked.add(call("conflicts", which));
        }
        asked.add(call("stored"));
        asked.add(call("merging"));
        askConflicts(asked);
        for (int i : someOf(state.list.size())) {
            asked.add(call("diffKey", i));
            asked.add(call("diffKind", i));
        }
        return asked;
    }

    private void askRows(List<Call> asked, int t) {
        asked.add(call("size", t));
        for (int k : someOf(state.size(t))) {
            asked.add(call("kth", t, k));
            int key = (int) state.kth(t, k);
            asked.add(call("rank", t, key));
            for (int c = 0; c < 3; c++) {
                asked.add(call("get", t, key, c));
            }
        }
    }

    private static void askTree(List<Call> asked, int c, int t) {
        asked.add(call("root", c, t));
        asked.add(call("height", c, t));
        asked.add(call("nodes", c, t, 0));
        asked.add(call("node", c, t, 0, 0, 3));
    }

    private void askConflicts(List<Call> asked) {
        for (int i : someOf(state.conflicts(1))) {
            for (int what = 0; what < 3; what++) {
                asked.add(call("conflict", i, what));
                for (int c = 0; c < 3; c++) {
                    asked.add(call("version", i, what, c));
                }
            }
        }
    }

    private void addProbe(Call first, Call... then) {
        List<Call> probe = new ArrayList<>(List.of(first));
        probe.addAll(List.of(then));
        probe.add(call("merging"));
        probe.add(call("conflicts", 0));
        for (int t = 0; t < 3; t++) {
            probe.add(call("size", t));
            probe.add(call("root", -1, t));
        }
        probes.add(probe);
    }

    private void addCommits() {
        int next = state.made;
        int branch = state.atHand;
        addProbe(call("commit"), call("head", branch), call("parent", next, 0), call("parent", next, 1));
        addProbe(call("put", 0, 7777, 1, 2, 3), call("commit"), call("head", branch), call("parent", next, 0));
        addProbe(call("reset"), call("commit"));
        addProbe(call("sweep"), call("stored"), call("ancestors", next - 1), call("ancestors", next / 2));
        addProbe(call("diff", 0, -1, 0), call("diffKey", 0), call("diffKind", 0));
        for (int t = 0; t < 3; t++) {
            addProbe(call("put", t, -7777, 1, 2, 3));
            addProbe(call("drop", t, (int) state.kth(t, 0)), call("stored"));
        }
    }

    private void addBranches() {
        for (int branch = 0; branch < 6; branch++) {
            addProbe(call("go", branch));
            addProbe(call("open", branch), call("head", branch));
            addProbe(call("close", branch), call("head", branch));
            addProbe(call("merge", branch), call("head", state.atHand));
            addProbe(call("send", branch), call("there", branch), call("kept", 0), call("kept", 1));
            addProbe(call("fetch", branch), call("head", branch), call("ancestors", state.made - 1));
        }
    }

    private void addPicks() {
        for (int c : new TreeSet<>(List.of(0, state.made / 2, state.made - 1, state.made))) {
            addProbe(call("pick", c));
            addProbe(call("undo", c));
        }
    }

    private void addSettles() {
        for (int i : new TreeSet<>(List.of(0, state.conflicts(1) / 2, state.conflicts(1)))) {
            for (int which = 0; which < 3; which++) {
                addProbe(call("settle", i, which), call("conflict", i, 2), call("commit"));
            }
        }
    }
}
