/** run, now, turn and state: promises 4, 9, 10 and 11. */
public final class TickTest {
    private static final int[] COUNT = {Asm.add(7, 1), Asm.branch(-3)};

    public static void main(String[] args) {
        runCounts();
        wrongRuns();
        roundOfThree();
        aloneInTheCircle();
        waitingGivesTheTurnAway();
        theTurnStaysIfNoneIsReady();
        leftIsKeptWhileWaiting();
        leftIsSpentWhileWaiting();
        faultEndsTheSlice();
        stopAndRestartOfTheOneWithTheTurn();
        stepsAcrossRuns();
        Checks.close("TickTest");
    }

    private static void runCounts() {
        Board x = new Board("run", Asm.process(0, 8, 0, COUNT));
        x.now(0).turn(-1).run(0).now(0).turn(-1).run(1).now(1).turn(0).run(400).now(401).register(0, 7, 201);
        x = new Board("faulting steps count", Asm.process(0, 8, 15, 0xFFFF));
        x.run(20, 16).now(20).faults(0, 2, 16);
        x = new Board("waiting ticks do not", Asm.process(0, 8, 0, Asm.YIELD));
        x.run(7, 1).now(7).state(0, 1).turn(0);
    }

    private static void wrongRuns() {
        Board x = new Board("wrong run", Asm.process(0, 8, 0, COUNT));
        int[] wrong = {-1, 401, Integer.MIN_VALUE, Integer.MAX_VALUE};
        for (int n : wrong) {
            x.run(n, -1).now(0).turn(-1).register(0, 7, 0);
        }
    }

    private static void roundOfThree() {
        int[] count = Asm.process(0, 8, 0, COUNT);
        Board x = new Board("three", count, count, count);
        x.turn(-1);
        for (int round = 0; round < 3; round++) {
            for (int p = 0; p < 3; p++) {
                x.run(1).turn(p).sp(p, 4128 + 64 * p).run(8).turn(p).sp(p, 4128 + 64 * p);
                x.run(1).turn(p).sp(p, 4096 + 64 * p).register(p, 7, 5 * (round + 1)).state(p, 0);
            }
        }
        x.state(3, -1).state(-1, -1);
    }

    private static void aloneInTheCircle() {
        int[] gone = Asm.process(0, 8, 0, 0xFFFF);
        Board x = new Board("alone", gone, Asm.process(0, 8, 0, COUNT), gone);
        x.run(1).turn(0).state(0, 2).run(10).turn(1).run(1).turn(2).state(2, 2).run(100).turn(1).register(1, 7, 55);
        // It gets the turn again after ten steps, and is stacked each time.
        x.sp(1, 4160).run(1).sp(1, 4192).run(9).sp(1, 4160);
    }

    private static void waitingGivesTheTurnAway() {
        Board x = new Board("wait", Asm.process(0, 8, 0, Asm.YIELD, Asm.rest()), Asm.process(0, 8, 0, COUNT));
        x.run(1).turn(0).state(0, 1).state(1, 0).run(1).turn(1).register(1, 7, 1).run(30).turn(1);
        x.state(0, 1).register(1, 7, 16);
    }

    private static void theTurnStaysIfNoneIsReady() {
        int[] yield = Asm.process(0, 8, 0, Asm.YIELD, Asm.rest());
        Board x = new Board("none", yield, yield);
        x.run(2).turn(1).run(50, 0).turn(1).now(52).state(0, 1).state(1, 1);
        x.restart(0, true).run(1).turn(0);
        x.restart(0, true).restart(1, true).run(1).turn(0).run(1).turn(1);
    }

    /** Nine steps to ask for input and wait; what comes then is a handler that counts in r7. */
    private static int[] reader() {
        return Asm.process(0, 8, 0, Asm.join(Asm.ask(Asm.SUBSCRIBE, 1, 30, 0), Asm.ask(Asm.COMMAND, 1, 2, 0),
            new int[] {Asm.YIELD, Asm.add(7, 1), Asm.branch(-3)}));
    }

    private static void leftIsKeptWhileWaiting() {
        Board x = new Board("left kept", reader(), Asm.process(0, 8, 0, COUNT));
        x.run(9).state(0, 1).turn(0).type(4, true).state(0, 0);
        // One step is left, and process 0 still has the turn.
        x.run(1).turn(0).register(0, 7, 1).sp(0, 4096).run(1).turn(1);
        x = new Board("left gone", reader(), Asm.process(0, 8, 0, COUNT));
        x.run(10).turn(1).type(4, true).run(9).turn(1).run(1).turn(0).register(0, 7, 1).run(9).turn(0).run(1).turn(1);
    }

    private static void leftIsSpentWhileWaiting() {
        Board x = new Board("left alone", reader());
        x.run(30, 9).turn(0).now(30).type(4, true).run(1).register(0, 7, 1).sp(0, 4096);
        x.run(9).sp(0, 4128).run(1).sp(0, 4096);
    }

    private static void faultEndsTheSlice() {
        int[] bad = Asm.process(0, 8, 15, Asm.mov(0, 1), 0xFFFF);
        Board x = new Board("fault", bad, Asm.process(0, 8, 0, COUNT));
        x.run(2).turn(0).faults(0, 2, 1).run(10).turn(1).run(2).turn(0).faults(0, 2, 2).run(1).turn(1);
        x = new Board("fault alone", bad);
        x.run(6).faults(0, 2, 3).turn(0).state(0, 0);
    }

    private static void stopAndRestartOfTheOneWithTheTurn() {
        int[] count = Asm.process(0, 8, 0, COUNT);
        Board x = new Board("stop", count, count);
        x.run(3).turn(0).stop(0, true).turn(0).state(0, 2).run(1).turn(1).register(0, 7, 2);
        x.restart(0, true).run(9).turn(1).run(1).turn(0);
        // A restart does not give back what is left of the slice.
        x = new Board("restart", count, count);
        x.run(8).restart(0, true).turn(0).run(2).turn(0).register(0, 7, 1).sp(0, 4096).run(1).turn(1);
    }

    private static void stepsAcrossRuns() {
        int[] count = Asm.process(0, 8, 0, COUNT);
        Board one = new Board("whole", count, count);
        Board many = new Board("in parts", count, count);
        one.run(47);
        for (int k = 0; k < 47; k++) {
            many.run(1);
        }
        for (int p = 0; p < 2; p++) {
            for (int k = 0; k < 12; k++) {
                many.register(p, k, one.kernel.register(p, k));
            }
        }
        many.now(47).turn(0).register(0, 7, 14);
    }
}
