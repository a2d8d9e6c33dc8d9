import java.util.ArrayList;
import java.util.List;

/** An act that answers a finding changes nothing but what found() tells: with it and without it all else is alike. */
final class Refusal {
    private static final int MOST_CALLS = 512;
    /** Behind longer runs there is too little left of the calls that an object is good for. */
    private static final int MOST_BEFORE = 150;

    private final List<Act> before;
    private final Act refused;
    private final long finding;
    private final List<Act> asked = new ArrayList<>();

    Refusal(List<Act> before, Act refused, long finding) {
        this.before = before;
        this.refused = refused;
        this.finding = finding;
    }

    boolean canBeReplayed() {
        return before.size() <= MOST_BEFORE;
    }

    /** What is not as it was, a line each. */
    List<String> changes() {
        List<String> changes = new ArrayList<>();
        listWhatCanBeAsked();
        int room = MOST_CALLS - before.size() - 1;
        for (int from = 0; from < asked.size(); from += room) {
            compare(asked.subList(from, Math.min(asked.size(), from + room)), changes);
        }
        return changes;
    }

    private void compare(List<Act> some, List<String> changes) {
        GlazierBench without = made();
        GlazierBench with = made();
        refused.on(with);
        for (Act act : some) {
            long more = act.equals(new Act("found", List.of((int) finding))) ? 1 : 0;
            long due = act.on(without) + more;
            long got = act.on(with);
            if (got != due) {
                changes.add("behind " + refused + " " + act + " answered " + got + ", due is " + due);
            }
        }
    }

    private GlazierBench made() {
        GlazierBench bench = new GlazierBench();
        before.forEach(act -> act.on(bench));
        return bench;
    }

    private void listWhatCanBeAsked() {
        GlazierBench bench = made();
        ask("found", -7, -1);
        ask("count", 0, 7);
        ask("bits", 0, 9);
        ask("alike", 0, 3);
        for (int k = 0; k < 4; k++) {
            ask("as(" + k + ", 0)", "as(" + k + ", 1)", "as(" + k + ", 2)");
        }
        askJoints(bench.count(3));
        askPanes(bench, bench.count(6));
        for (int x = 1; x < 2 * bench.count(0); x++) {
            for (int y = 1; y < 2 * bench.count(1); y++) {
                ask("at(" + x + ", " + y + ")");
            }
        }
        askWhatChanges();
    }

    private void askJoints(int joints) {
        for (int i = 0; i < joints; i++) {
            for (int what = 0; what < 6; what++) {
                ask("joint(" + i + ", " + what + ")");
            }
            for (int j = 0; j < i; j++) {
                ask("piece(" + i + ", " + j + ")");
            }
        }
    }

    private void askPanes(GlazierBench bench, int panes) {
        for (int p = 0; p < panes; p++) {
            ask("area(" + p + ")");
            for (int what = 0; what < 10; what++) {
                ask("pane(" + p + ", " + what + ")");
            }
            for (int k = 0; k < bench.pane(p, 0); k++) {
                ask("corner(" + p + ", " + k + ")");
            }
            for (int q = 0; q <= p; q++) {
                ask("touch(" + p + ", " + q + ")");
            }
        }
    }

    /** Last, as these change what there is: on both objects in the same way. */
    private void askWhatChanges() {
        ask("sheets(12, 12, false)", "sheets(12, 12, true)", "sheets(4, 3, true)", "sheets(3, 4, false)");
        ask("pick(0)", "unpick()", "lack(300)", "bits(0)", "colours(300)", "pane(0, 7)", "pane(1, 7)");
        ask("undo()");
        ask("count", 0, 7);
        ask("lead(0, 0, 1, 1)", "lead(0, 1, 1, 0)");
        ask("count", 0, 7);
        for (int k = 0; k < 4; k++) {
            ask("back(" + k + ")");
            ask("count", 0, 7);
            ask("undo()", "count(6)");
        }
    }

    private void ask(String... calls) {
        for (String call : calls) {
            asked.add(Act.of(call));
        }
    }

    private void ask(String name, int first, int last) {
        for (int i = first; i <= last; i++) {
            ask(name + "(" + i + ")");
        }
    }
}
