/** A GrantKernel with processes burnt and booted, whose calls are checked one by one. */
final class Board {
    /** The document promises nothing about later calls, so a test that makes more is wrong itself. */
    static final int MOST_CALLS = 512;

    final GrantKernel kernel = new GrantKernel();
    private final String name;
    private int calls;

    Board(String name, int[]... processes) {
        this.name = name;
        burnAll(processes);
        count();
        kernel.boot();
    }

    void burnAll(int[]... processes) {
        int[] image = Asm.join(processes);
        for (int k = 0; k < image.length; k++) {
            count();
            kernel.burn(k, image[k]);
        }
    }

    private void count() {
        calls++;
        if (calls > MOST_CALLS) {
            Checks.due(name + ": calls of one object", calls, MOST_CALLS);
        }
    }

    private void due(String call, long got, long want) {
        count();
        Checks.due(name + ": " + call, got, want);
    }

    Board run(int n, int want) {
        due("run(" + n + ")", kernel.run(n), want);
        return this;
    }

    /** n ticks, each of them a step. */
    Board run(int n) {
        return run(n, n);
    }

    Board register(int p, int k, int want) {
        due("register(" + p + ", " + k + ")", kernel.register(p, k), want);
        return this;
    }

    /** r0 and up. */
    Board registers(int p, int... want) {
        for (int k = 0; k < want.length; k++) {
            register(p, k, want[k]);
        }
        return this;
    }

    Board sp(int p, int want) {
        return register(p, 8, want);
    }

    Board lr(int p, int want) {
        return register(p, 9, want);
    }

    Board pc(int p, int want) {
        return register(p, 10, want);
    }

    Board flags(int p, int want) {
        return register(p, 11, want);
    }

    Board word(int k, int want) {
        due("word(" + k + ")", kernel.word(k), want);
        return this;
    }

    Board words(int first, int... want) {
        for (int k = 0; k < want.length; k++) {
            word(first + k, want[k]);
        }
        return this;
    }

    Board state(int p, int want) {
        due("state(" + p + ")", kernel.state(p), want);
        return this;
    }

    Board turn(int want) {
        due("turn()", kernel.turn(), want);
        return this;
    }

    Board now(int want) {
        due("now()", kernel.now(), want);
        return this;
    }

    Board block(int p, int want) {
        due("block(" + p + ")", kernel.block(p), want);
        return this;
    }

    Board open(int p, int want) {
        due("open(" + p + ")", kernel.open(p), want);
        return this;
    }

    Board grant(int p, int d, int want) {
        due("grant(" + p + ", " + d + ")", kernel.grant(p, d), want);
        return this;
    }

    Board queued(int p, int want) {
        due("queued(" + p + ")", kernel.queued(p), want);
        return this;
    }

    /** The latest fault and how many there were. */
    Board faults(int p, int latest, int count) {
        due("fault(" + p + ")", kernel.fault(p), latest);
        due("faults(" + p + ")", kernel.faults(p), count);
        return this;
    }

    Board burn(int k, int h, int want) {
        due("burn(" + k + ", " + h + ")", kernel.burn(k, h), want);
        return this;
    }

    Board boot(int want) {
        due("boot()", kernel.boot(), want);
        return this;
    }

    Board type(int v, boolean want) {
        due("type(" + v + ")", kernel.type(v) ? 1 : 0, want ? 1 : 0);
        return this;
    }

    Board sample(int v, int want) {
        due("sample(" + v + ")", kernel.sample(v), want);
        return this;
    }

    Board outputs(int want) {
        due("outputs()", kernel.outputs(), want);
        return this;
    }

    Board output(int k, int want) {
        due("output(" + k + ")", kernel.output(k), want);
        return this;
    }

    Board restart(int p, boolean want) {
        due("restart(" + p + ")", kernel.restart(p) ? 1 : 0, want ? 1 : 0);
        return this;
    }

    Board stop(int p, boolean want) {
        due("stop(" + p + ")", kernel.stop(p) ? 1 : 0, want ? 1 : 0);
        return this;
    }
}
