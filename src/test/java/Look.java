import java.util.ArrayList;
import java.util.List;

/** Everything that the methods that only look can see of a board, in 231 calls. */
final class Look {
    private final List<String> names = new ArrayList<>();
    private final List<Integer> answers = new ArrayList<>();

    Look(GrantKernel x) {
        see("now()", x.now());
        see("turn()", x.turn());
        see("outputs()", x.outputs());
        for (int k = 0; k < 16; k++) {
            see("output(" + k + ")", x.output(k));
        }
        for (int k = 0; k < 128; k++) {
            see("word(" + k + ")", x.word(k));
        }
        for (int p = 0; p < 4; p++) {
            seeProcess(x, p);
        }
    }

    private void seeProcess(GrantKernel x, int p) {
        see("state(" + p + ")", x.state(p));
        see("block(" + p + ")", x.block(p));
        see("open(" + p + ")", x.open(p));
        see("queued(" + p + ")", x.queued(p));
        see("fault(" + p + ")", x.fault(p));
        see("faults(" + p + ")", x.faults(p));
        for (int d = 0; d < 3; d++) {
            see("grant(" + p + ", " + d + ")", x.grant(p, d));
        }
        for (int k = 0; k < 12; k++) {
            see("register(" + p + ", " + k + ")", x.register(p, k));
        }
    }

    private void see(String name, int answer) {
        names.add(name);
        answers.add(answer);
    }

    /** All answers are those of the other look, but for those that are named. */
    void sameAs(Look other, String test, String... except) {
        for (int k = 0; k < names.size(); k++) {
            if (!List.of(except).contains(names.get(k))) {
                Checks.due(test + ": " + names.get(k), answers.get(k), other.answers.get(k));
            }
        }
    }
}
