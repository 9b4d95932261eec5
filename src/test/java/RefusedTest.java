import java.util.function.Consumer;
import java.util.function.Supplier;

/**
 * "A call that is refused changes nothing." Two boards have the same past; the call is made on one of
 * them alone, and then neither what can be seen, nor what comes later, nor the flash may differ. The
 * same for the calls of a process that are answered with less than 0.
 */
public final class RefusedTest {
    private static final int MIN = Integer.MIN_VALUE;
    private static final int MAX = Integer.MAX_VALUE;
    private static final int[] HANDLER = {Asm.branch(0), Asm.bx(14)};

    public static void main(String[] args) {
        burn();
        run();
        type();
        restartAndStop();
        looking();
        callsOfProcesses();
        Checks.close("RefusedTest");
    }

    private static int[] code(int[]... parts) {
        return Asm.join(HANDLER, Asm.join(parts));
    }

    /** Waits for an alarm and for input, with a buffer and subscriptions; then it does the same again. */
    private static int[] waiting() {
        return Asm.process(1, 16, 0, code(Asm.ask(Asm.SUBSCRIBE, 0, 15, 3), Asm.ask(Asm.SUBSCRIBE, 1, 15, 4),
            new int[] {Asm.mov(0, 1), Asm.addrSp(1, 0), Asm.sub(1, 64), Asm.mov(2, 2), Asm.ALLOW},
            Asm.ask(Asm.COMMAND, 0, 1, 90), Asm.ask(Asm.COMMAND, 1, 2, 0), new int[] {Asm.YIELD, Asm.branch(-13)}));
    }

    /** Is READY with upcalls that wait, and puts words out. */
    private static int[] busy(int q) {
        return Asm.process(1, 16, 0, code(new int[] {Asm.mov(0, 1), Asm.mov(1, 2 * (q + 7)), Asm.mov(2, 4), Asm.SUBSCRIBE,
            Asm.addrSp(1, 0), Asm.sub(1, 64), Asm.mov(2, 2), Asm.mov(0, 1), Asm.ALLOW},
            Asm.ask(Asm.COMMAND, 1, 1, 2), new int[] {Asm.add(7, 1), Asm.branch(-7)}));
    }

    private static int[] faulting() {
        return Asm.process(0, 8, 2, Asm.mov(0, 3), 0xFFFF);
    }

    /** Asks the sensor, and counts. */
    private static int[] sensing() {
        return Asm.process(0, 9, 0, Asm.join(Asm.ask(Asm.COMMAND, 2, 1, 0), new int[] {Asm.add(7, 1), Asm.branch(-3)}));
    }

    /** A board on which much has happened: its four processes WAIT, are READY, STOPPED, and have the turn. */
    private static GrantKernel lively() {
        GrantKernel x = new GrantKernel();
        int[] first = waiting();
        int[] image = Asm.join(first, busy(first.length), faulting(), sensing());
        for (int k = 0; k < image.length; k++) {
            x.burn(k, image[k]);
        }
        x.boot();
        x.run(85);
        x.sample(4);
        return x;
    }

    /** The same, with eight inputs that wait and none that asks. */
    private static GrantKernel crammed() {
        GrantKernel x = lively();
        for (int k = 0; k < 9; k++) {
            x.type(100 + k);
        }
        return x;
    }

    private static void goOn(GrantKernel x) {
        x.run(3);
        x.type(55);
        x.run(1);
        x.sample(56);
        x.run(60);
        x.restart(2);
        x.type(57);
        x.run(137);
    }

    /** The call gives the answer, and a board on which it was made is like one on which it was not. */
    private static void nothing(String name, Supplier<GrantKernel> make, Consumer<GrantKernel> refused) {
        GrantKernel now = make.get();
        refused.accept(now);
        new Look(now).sameAs(new Look(make.get()), name + ", at once");
        GrantKernel later = make.get();
        refused.accept(later);
        goOn(later);
        GrantKernel other = make.get();
        goOn(other);
        new Look(later).sameAs(new Look(other), name + ", later");
        GrantKernel flash = make.get();
        refused.accept(flash);
        other = make.get();
        for (int k = 0; k < 256; k++) {
            Checks.due(name + ": halfword " + k, flash.burn(k, 0), other.burn(k, 0));
        }
    }

    private static void burn() {
        int[][] rows = {{-1, 5}, {256, 5}, {MIN, 5}, {MAX, 5}, {0, -1}, {6, -1}, {6, 65536}, {255, 65536}, {7, MIN}, {7, MAX},
            {-1, -1}, {256, 65536}};
        for (int[] row : rows) {
            nothing("burn(" + row[0] + ", " + row[1] + ")", RefusedTest::lively,
                x -> Checks.due("burn", x.burn(row[0], row[1]), -1));
        }
    }

    private static void run() {
        int[] wrong = {-1, 401, 402, MIN, MAX};
        for (int n : wrong) {
            nothing("run(" + n + ")", RefusedTest::lively, x -> Checks.due("run", x.run(n), -1));
            nothing("run(" + n + ")", GrantKernel::new, x -> Checks.due("run", x.run(n), -1));
        }
        nothing("run(0)", RefusedTest::lively, x -> Checks.due("run", x.run(0), 0));
    }

    private static void type() {
        Checks.due("inputs that wait", crammed().type(1), false);
        int[] values = {0, 1, -1, MIN, MAX};
        for (int v : values) {
            nothing("type(" + v + ")", RefusedTest::crammed, x -> Checks.due("type", x.type(v), false));
        }
    }

    private static void restartAndStop() {
        GrantKernel board = lively();
        int[] states = {1, 0, 2, 0};
        for (int p = 0; p < 4; p++) {
            Checks.due("lively: state(" + p + ")", board.state(p), states[p]);
        }
        Checks.due("lively: turn()", board.turn(), 3);
        int[] none = {-1, 4, 5, MIN, MAX};
        for (int p : none) {
            nothing("restart(" + p + ")", RefusedTest::lively, x -> Checks.due("restart", x.restart(p), false));
            nothing("stop(" + p + ")", RefusedTest::lively, x -> Checks.due("stop", x.stop(p), false));
            nothing("restart(" + p + ")", GrantKernel::new, x -> Checks.due("restart", x.restart(p), false));
            nothing("stop(" + p + ")", GrantKernel::new, x -> Checks.due("stop", x.stop(p), false));
        }
        nothing("restart(0)", GrantKernel::new, x -> Checks.due("restart", x.restart(0), false));
        nothing("stop(2)", RefusedTest::lively, x -> Checks.due("stop", x.stop(2), false));
        for (int p = 0; p < 4; p++) {
            int each = p;
            nothing("stop(" + p + ") twice", () -> {
                GrantKernel x = lively();
                x.stop(each);
                return x;
            }, x -> Checks.due("stop", x.stop(each), false));
        }
    }

    /** Methods that only look change nothing either, whatever they are asked. */
    private static void looking() {
        int[] numbers = {-1, 0, 3, 4, 16, MIN, MAX};
        nothing("looking", RefusedTest::lively, x -> {
            for (int k : numbers) {
                x.output(k);
                x.state(k);
                x.register(k, 0);
                x.register(0, k);
                x.word(k);
                x.block(k);
                x.open(k);
                x.grant(k, 0);
                x.grant(0, k);
                x.queued(k);
                x.fault(k);
                x.faults(k);
            }
            x.outputs();
            x.now();
            x.turn();
        });
    }

    /** Some calls that are answered with 0 or more, then one that is not: like CALL 4, but for its answer. */
    private static void callsOfProcesses() {
        int[][] before = {Calls.ask(Calls.SUBSCRIBE, 0, 13, 5), Calls.ask(Calls.SUBSCRIBE, 1, 13, 6),
            Calls.ask(Calls.SUBSCRIBE, 2, 13, 7), Calls.ask(Calls.ALLOW, 1, 4100, 2), Calls.ask(Calls.COMMAND, 0, 1, 99),
            Calls.ask(Calls.COMMAND, 1, 1, 2), Calls.ask(Calls.COMMAND, 1, 2, 0), Calls.ask(Calls.COMMAND, 2, 1, 0)};
        // {call, r0, r1, r2, answer}
        int[][] rows = {{1, 3, 0, 0, -2}, {2, -1, 1, 1, -2}, {3, 3, 4096, 1, -2}, {3, 1, 4096, -1, -3}, {3, 1, 4097, 1, -3},
            {3, 1, 4096, 25, -3}, {3, 0, 4192, 1, -3}, {2, 0, 1, 0, -3}, {2, 0, 1, 1001, -3}, {2, 1, 1, -1, -3},
            {2, 1, 2, 0, -5}, {2, 2, 1, 0, -5}, {2, 0, 4, 1, -1}, {2, 1, 3, 1, -1}, {2, 2, 2, 1, -1}, {5, 0, 1, 1, -1},
            {255, 1, 1, 1, -1}};
        for (int[] row : rows) {
            String name = "call " + row[0] + " of " + row[1] + ", " + row[2] + ", " + row[3];
            GrantKernel one = afterCalls(before, Calls.ask(row[0], row[1], row[2], row[3]));
            GrantKernel other = afterCalls(before, Calls.ask(4, row[1], row[2], row[3]));
            Checks.due(name, one.register(0, 0), row[4]);
            new Look(one).sameAs(new Look(other), name, "register(0, 0)", "word(8)");
        }
        noRoom();
    }

    private static GrantKernel afterCalls(int[][] before, int[] last) {
        int[][] all = new int[before.length + 1][];
        System.arraycopy(before, 0, all, 0, before.length);
        all[before.length] = last;
        return Calls.board("calls", all).run(4 * all.length).kernel;
    }

    /** -4: by KEEP and by a buffer. */
    private static void noRoom() {
        int[][] before = {Calls.ask(Calls.SUBSCRIBE, 1, 13, 6), Calls.ask(Calls.ALLOW, 1, 4204, 1),
            Calls.ask(Calls.COMMAND, 0, 1, 99)};
        for (int call = 1; call <= 3; call++) {
            GrantKernel one = afterCalls(before, Calls.ask(call, 2, 1, 0));
            GrantKernel other = afterCalls(before, Calls.ask(4, 2, 1, 0));
            Checks.due("no room for " + call, one.register(0, 0), -4);
            new Look(one).sameAs(new Look(other), "no room for " + call, "register(0, 0)", "word(8)");
        }
        for (int call = 1; call <= 3; call++) {
            int[] store = {Asm.mov(7, 9), Asm.strSp(7, 0), Asm.strSp(7, 1)};
            Look[] looks = new Look[2];
            for (int k = 0; k < 2; k++) {
                int number = k == 0 ? call : 4;
                int[] code = Asm.join(store, Asm.ask(Asm.call(number), 0, 1, 9), new int[] {Asm.rest()});
                Board x = new Board("KEEP 30 and call " + number, Asm.process(1, 30, 0, code)).run(7);
                looks[k] = new Look(x.register(0, 0, k == 0 ? -4 : -1).words(30, 9, 9).kernel);
            }
            looks[0].sameAs(looks[1], "KEEP 30 and call " + call, "register(0, 0)", "word(22)");
        }
    }
}
