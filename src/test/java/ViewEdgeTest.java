/**
 * The numbers that the methods that look take: the last one that there is and the first one that there is
 * not, for processes, registers, words, drivers and outputs: promises 7 to 19.
 */
public final class ViewEdgeTest {
    private static final int MIN = Integer.MIN_VALUE;
    private static final int MAX = Integer.MAX_VALUE;
    private static final int[] SMALL = Asm.process(0, 8, 0, Asm.add(7, 1), Asm.branch(-3));

    public static void main(String[] args) {
        processNumbers();
        processesThatAreGone();
        registerNumbers();
        registersInAFrame();
        driverNumbers();
        stateNumbers();
        turnNumbers();
        faultNumbers();
        Checks.close("ViewEdgeTest");
    }

    /** A number that no process has: -1, 0 for a register, false for restart and stop. */
    private static void isNone(Board x, int p) {
        x.state(p, -1).block(p, -1).open(p, -1).queued(p, -1).faults(p, -1, -1);
        for (int d = -1; d <= 3; d++) {
            x.grant(p, d, -1);
        }
        for (int k = -1; k <= 12; k++) {
            x.register(p, k, 0);
        }
        x.restart(p, false).stop(p, false);
    }

    private static void isThere(Board x, int p) {
        x.state(p, 0).block(p, 4096 + 64 * p).open(p, 16).queued(p, 0).faults(p, 0, 0).grant(p, 0, -1);
        x.sp(p, 4128 + 64 * p).pc(p, 12 + 16 * p).restart(p, true).stop(p, true).state(p, 2).restart(p, true);
    }

    /** '"Process p" with a number that no process has: there is none.' */
    private static void processNumbers() {
        for (int count = 0; count <= 4; count++) {
            int[][] images = new int[count][];
            for (int p = 0; p < count; p++) {
                images[p] = SMALL;
            }
            Board x = new Board(count + " processes", images);
            for (int p = 0; p < count; p++) {
                isThere(x, p);
            }
            int[] none = {-1, count, 4, 5, -4, MIN, MAX};
            for (int p : none) {
                isNone(x, p);
            }
        }
    }

    /** Those that were loaded at an earlier boot are none. */
    private static void processesThatAreGone() {
        int[] asking = Asm.process(0, 8, 0, Asm.join(Asm.ask(Asm.COMMAND, 2, 1, 0), new int[] {Asm.rest()}));
        int[] wrong = Asm.process(0, 8, 0, Asm.join(Asm.ask(Asm.COMMAND, 2, 1, 0), new int[] {0xFFFF}));
        Board x = new Board("gone", asking, asking, asking, wrong).run(35).faults(3, 2, 1).grant(2, 2, 4280);
        x.burn(2 * asking.length, 0, Asm.MAGIC).boot(2).state(1, 0).faults(1, 0, 0).turn(-1);
        isNone(x, 2);
        isNone(x, 3);
        x.run(14).grant(1, 2, 4216).words(30, 1, 0).burn(0, 0, Asm.MAGIC).boot(0).turn(-1).run(3, 0).turn(-1).sample(1, 0);
        isNone(x, 0);
        isNone(x, 1);
        x.burn(0, Asm.MAGIC, 0).boot(2).state(0, 0).state(1, 0).sample(1, 0);
    }

    /** "r0 .. r7 for 0 .. 7, SP 8, LR 9, PC 10, FLAGS 11 ... 0 if there is no such process or register" */
    private static void registerNumbers() {
        int[] r = {Bench.AT + 5, 11, 12, 13, 14, 15, 16, 17};
        Board x = Bench.before("registers", 11, r, Asm.blx(0), 0, 0).run(1);
        x.registers(0, Bench.AT + 5, 11, 12, 13, 14, 15, 16, 17, Bench.SP, Bench.AT + 3, Bench.AT + 4, 11);
        int[] wrong = {-1, -2, 12, 13, 14, 15, 16, 256, MIN, MAX};
        for (int k : wrong) {
            x.register(0, k, 0);
        }
    }

    /** "in a frame r0 .. r3, LR and PC are the words of the frame ..., and FLAGS the highest four bits of its word 7" */
    private static void registersInAFrame() {
        int[] r = {Bench.AT + 5, 11, 12, 13, 14, 15, 16, 17};
        Board x = Bench.before("in a frame", 11, r, Asm.blx(0), 0, Asm.call(99)).run(2);
        x.registers(0, -1, 11, 12, 13, 14, 15, 16, 17, Bench.SP - 32, Bench.AT + 3, Bench.AT + 6, 11);
        x.words(24, -1, 11, 12, 13, 0, Bench.AT + 3, Bench.AT + 6, 0xB1000000);
        int[] wrong = {-1, 12, 13, MIN, MAX};
        for (int k : wrong) {
            x.register(0, k, 0);
        }
        x.stop(0, true).registers(0, -1, 11, 12, 13, 14, 15, 16, 17, Bench.SP - 32, Bench.AT + 3, Bench.AT + 6, 11);
    }

    /** "The address of the grant of process p for driver d; -1 if there is none" */
    private static void driverNumbers() {
        int[] wrong = {-1, 3, 4, MIN, MAX};
        for (int driver = 0; driver < 3; driver++) {
            Board x = Calls.board("driver " + driver, Calls.ask(Calls.COMMAND, driver, 0, 0));
            x.grant(0, driver, -1).run(3).grant(0, driver, -1).run(1);
            for (int d = 0; d < 3; d++) {
                x.grant(0, d, d == driver ? 4216 : -1);
            }
            for (int d : wrong) {
                x.grant(0, d, -1);
            }
            x.grant(1, driver, -1).grant(-1, driver, -1).stop(0, true).grant(0, driver, -1);
        }
    }

    /** "0 if process p is READY, 1 if it WAITS, 2 if it is STOPPED" */
    private static void stateNumbers() {
        Board x = new Board("states", SMALL, Asm.process(0, 8, 0, Asm.YIELD), Asm.process(0, 8, 0, 0xFFFF));
        x.state(0, 0).state(1, 0).state(2, 0).state(3, -1).run(12).state(0, 0).state(1, 1).state(2, 2).state(3, -1);
        x.stop(0, true).state(0, 2).stop(1, true).state(1, 2).restart(0, true).state(0, 0).restart(1, true).state(1, 0);
    }

    /** "The process that has the turn; -1 if none has": also when it is not READY any more. */
    private static void turnNumbers() {
        Board x = new Board("turn", SMALL, Asm.process(0, 8, 0, Asm.YIELD), Asm.process(0, 8, 0, 0xFFFF));
        x.turn(-1).run(1).turn(0).run(9).turn(0).run(1).turn(1).state(1, 1).run(1).turn(2).state(2, 2).run(1).turn(0);
        x.stop(0, true).turn(0).run(1, 0).turn(0).boot(3).turn(-1);
    }

    /** "The number of the latest fault of process p, 0 if it had none": each process has its own. */
    private static void faultNumbers() {
        Board x = new Board("faults", Asm.process(0, 8, 1, 0xFFFF), Asm.process(0, 8, 0, Asm.bx(0)), SMALL);
        x.faults(0, 0, 0).faults(1, 0, 0).faults(2, 0, 0).faults(3, -1, -1).run(1).faults(0, 2, 1).faults(1, 0, 0);
        x.run(1).faults(1, 5, 1).faults(0, 2, 1).faults(2, 0, 0).run(11).faults(0, 2, 2).faults(1, 5, 1).faults(2, 0, 0);
        x.faults(-1, -1, -1).faults(4, -1, -1).faults(MIN, -1, -1).faults(MAX, -1, -1);
    }
}
