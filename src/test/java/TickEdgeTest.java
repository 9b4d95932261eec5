/**
 * The edges of TICKS, of STOPPED and RESTARTED and of POLICY, a sentence each, on both sides:
 * promises 4, 9, 10, 11, 20 and 21.
 */
public final class TickEdgeTest {
    private static final int MIN = Integer.MIN_VALUE;
    private static final int MAX = Integer.MAX_VALUE;
    private static final int WRONG = 0xFFFF;
    private static final int[] COUNT = Asm.process(0, 8, 0, Asm.add(7, 1), Asm.branch(-3));
    private static final int[] WAIT = Asm.process(0, 8, 0, Asm.YIELD, Asm.rest());

    public static void main(String[] args) {
        ticksAre0To400();
        nowGrowsWithEveryTick();
        noneHasTheTurnAtFirst();
        from0OnIfNoneHasTheTurn();
        theTurnIsTen();
        theCircleOfNumbers();
        itselfIsTheLastOneTried();
        oneThatIsNotReadyLosesTheTurn();
        oneThatIsReadyAgainGoesOn();
        noneIsReady();
        aFrameIsTakenFirst();
        theTenthStepStacks();
        aCallAsTheTenthStepStacksOnce();
        theTenthStepThatCannotStack();
        aFaultEndsTheTurn();
        faultedStepsCount();
        policyCountsRestarts();
        policyCountsSinceBoot();
        restartDoesNotCountForPolicy();
        stopIsRefusedForTheStopped();
        stopKeepsRegistersAndMemory();
        restartFromEveryState();
        Checks.close("TickEdgeTest");
    }

    /** "refused with -1 if n is not 0 .. 400" */
    private static void ticksAre0To400() {
        Board x = new Board("n", COUNT);
        int[] wrong = {-1, -400, 401, 402, 65536, MIN, MAX};
        x.run(3);
        for (int n : wrong) {
            x.run(n, -1).now(3).turn(0).register(0, 7, 2).pc(0, 14);
        }
        x.run(0).now(3).register(0, 7, 2).run(1).now(4).run(399).now(403).run(400).now(803).register(0, 7, 402);
        x.run(401, -1).now(803).run(-1, -1).now(803);
    }

    /** "NOW is 0 at first. A tick: NOW becomes 1 more" */
    private static void nowGrowsWithEveryTick() {
        Board x = new Board("no process");
        x.now(0).run(0).now(0).run(1, 0).now(1).run(400, 0).now(401).boot(0).now(0);
        x = new Board("a process", COUNT).now(0).run(1).now(1).boot(1).now(0);
    }

    /** "if no process has the TURN (as at first)" */
    private static void noneHasTheTurnAtFirst() {
        Board x = new Board("at first", COUNT, COUNT).turn(-1).run(0).turn(-1).run(1).turn(0).boot(2).turn(-1);
        x = new Board("no process").turn(-1).run(5, 0).turn(-1);
        x = new Board("none READY", COUNT).stop(0, true).run(5, 0).turn(-1).restart(0, true).turn(-1).run(1).turn(0);
    }

    /** "from 0 on if none has the turn" */
    private static void from0OnIfNoneHasTheTurn() {
        for (int stopped = 0; stopped < 4; stopped++) {
            Board x = new Board("the first " + stopped + " stopped", COUNT, COUNT, COUNT, COUNT);
            for (int p = 0; p < stopped; p++) {
                x.stop(p, true);
            }
            x.run(1).turn(stopped).register(stopped, 7, 1);
        }
        Board x = new Board("all stopped", COUNT, COUNT).stop(0, true).stop(1, true).run(1, 0).turn(-1);
        x.restart(1, true).run(1).turn(1);
    }

    /** "gets the turn and LEFT becomes 10": the tenth step is the last one. */
    private static void theTurnIsTen() {
        Board x = new Board("ten", COUNT, COUNT);
        x.run(9).turn(0).sp(0, 4128).run(1).turn(0).sp(0, 4096).register(0, 7, 5).run(1).turn(1).register(1, 7, 1);
        x.run(8).turn(1).sp(1, 4192).run(1).turn(1).sp(1, 4160).run(1).turn(0).sp(0, 4128).register(0, 7, 6);
    }

    /** "the first READY process behind it in the circle of numbers" */
    private static void theCircleOfNumbers() {
        // {who has the turn, who is stopped besides, who comes next}
        int[][] rows = {{0, -1, 1}, {1, -1, 2}, {2, -1, 3}, {3, -1, 0}, {0, 1, 2}, {3, 0, 1}, {2, 3, 0}, {1, 0, 2}};
        for (int[] row : rows) {
            Board x = new Board("from " + row[0] + " without " + row[1], COUNT, COUNT, COUNT, COUNT);
            x.run(10 * row[0] + 10).turn(row[0]);
            if (row[1] >= 0) {
                x.stop(row[1], true);
            }
            x.run(1).turn(row[2]);
        }
        Board x = new Board("three", COUNT, COUNT, COUNT).run(30).turn(2).run(1).turn(0);
        x = new Board("two gone", COUNT, COUNT, COUNT, COUNT).run(30).turn(2).stop(3, true).stop(0, true).run(1).turn(1);
    }

    /** "it being the last one tried" */
    private static void itselfIsTheLastOneTried() {
        Board x = new Board("alone", COUNT).run(10).sp(0, 4096).run(1).turn(0).sp(0, 4128).run(8).sp(0, 4128);
        x.run(1).sp(0, 4096).turn(0).register(0, 7, 10);
        x = new Board("the others stopped", COUNT, COUNT, COUNT).run(20).turn(1).stop(0, true).stop(2, true);
        x.run(11).turn(1).register(1, 7, 11).restart(0, true).run(9).turn(1).run(1).turn(0);
    }

    /** "or the one that has it is not READY" */
    private static void oneThatIsNotReadyLosesTheTurn() {
        Board x = new Board("waits", WAIT, COUNT).run(1).turn(0).state(0, 1).run(1).turn(1).register(1, 7, 1);
        x = new Board("stopped", COUNT, COUNT).run(4).turn(0).stop(0, true).turn(0).run(1).turn(1).register(0, 7, 2);
        x.run(9).sp(1, 4160).run(1).turn(1);
        x = new Board("another one stopped", COUNT, COUNT).run(4).stop(1, true).run(6).turn(0).run(1).turn(0);
    }

    /** LEFT is neither looked at nor changed while a process is not READY. */
    private static void oneThatIsReadyAgainGoesOn() {
        Board x = new Board("restarted", COUNT, COUNT).run(7).stop(0, true).restart(0, true).run(3).turn(0);
        x.register(0, 7, 2).sp(0, 4096).run(1).turn(1);
        x = new Board("restarted before", COUNT, COUNT).run(7).restart(0, true).run(3).turn(0).sp(0, 4096).run(1).turn(1);
        x = new Board("alone", COUNT).run(7).stop(0, true).run(20, 0).turn(0).restart(0, true).run(2).sp(0, 4128);
        x.run(1).sp(0, 4096);
        x = new Board("LEFT is 0", COUNT, COUNT).run(10).turn(0).restart(0, true).run(1).turn(1);
    }

    /** "if none is READY, the turn stays as it was and the tick is over" */
    private static void noneIsReady() {
        Board x = new Board("none", WAIT, WAIT, WAIT).run(1).turn(0).run(1).turn(1).run(1).turn(2).run(1, 0).turn(2);
        x.run(400, 0).turn(2).now(404).state(0, 1).state(1, 1).state(2, 1).restart(1, true).run(1).turn(1);
        x.run(5, 0).turn(1);
    }

    /** "if it is in a frame, it is taken from it; then the instruction at PC is done" */
    private static void aFrameIsTakenFirst() {
        Board x = new Board("frame", COUNT).run(10).sp(0, 4096).pc(0, 12).run(1).sp(0, 4128).pc(0, 14).register(0, 7, 6);
        x = new Board("call", Asm.process(0, 8, 0, Asm.call(4), Asm.mov(3, 9), Asm.rest()));
        x.run(1).sp(0, 4096).pc(0, 14).register(0, 3, 0).run(1).sp(0, 4128).pc(0, 16).register(0, 3, 9);
        // The instruction faults, and yet the frame has been taken.
        x = new Board("fault behind", Asm.process(0, 8, 0, Asm.call(4), WRONG));
        x.run(2).faults(0, 2, 1).sp(0, 4128).pc(0, 14).register(0, 0, -1).state(0, 2);
    }

    /** "If LEFT is 0 then and the process is in no frame, it is stacked." */
    private static void theTenthStepStacks() {
        for (int keep = 8; keep <= 16; keep++) {
            Board x = new Board("KEEP " + keep, Asm.process(0, keep, 0, Asm.add(3, 1), Asm.branch(-3)));
            int frame = 4096 + 4 * (keep - 8 - keep % 2);
            x.run(9).sp(0, 4096 + 4 * keep).word((frame - 4096) / 4 + 3, 0).run(1).sp(0, frame).pc(0, 12).register(0, 3, 5);
            x.word((frame - 4096) / 4 + 3, 5).word((frame - 4096) / 4 + 6, 12);
        }
    }

    private static void aCallAsTheTenthStepStacksOnce() {
        int[] code = {0, 0, 0, 0, 0, 0, 0, 0, 0, Asm.call(4), Asm.rest()};
        Board x = new Board("tenth", Asm.process(0, 16, 0, code), COUNT).run(9).sp(0, 4160).run(1).sp(0, 4128).pc(0, 32);
        x.run(1).turn(1).run(10).turn(0).sp(0, 4160);
        code[8] = Asm.call(4);
        code[9] = 0;
        x = new Board("ninth", Asm.process(0, 16, 0, code), COUNT).run(9).sp(0, 4128).pc(0, 30).run(1).sp(0, 4128);
        x.pc(0, 32).run(1).turn(1);
        code[8] = 0;
        code[9] = Asm.YIELD;
        x = new Board("YIELD", Asm.process(0, 16, 0, code), COUNT).run(10).sp(0, 4128).state(0, 1).run(1).turn(1);
    }

    private static void theTenthStepThatCannotStack() {
        int[] code = {Asm.spDown(1), Asm.add(7, 1), Asm.branch(-3)};
        Board x = new Board("tenth", Asm.process(0, 8, 0, code), COUNT);
        x.run(9).faults(0, 0, 0).state(0, 0).run(1).faults(0, 6, 1).state(0, 2).turn(0).register(0, 7, 5).sp(0, 4124);
        x.pc(0, 16).run(1).turn(1);
        for (int k = 0; k < 16; k++) {
            x.word(k, 0);
        }
    }

    /** "After a FAULT LEFT is 0, nothing more is done in this tick" */
    private static void aFaultEndsTheTurn() {
        int[] bad = Asm.process(0, 8, 2, Asm.mov(0, 3), WRONG);
        Board x = new Board("fault", bad, COUNT).run(2).turn(0).faults(0, 2, 1).state(0, 0).pc(0, 12).sp(0, 4128);
        x.run(1).turn(1).run(9).turn(1).run(2).turn(0).faults(0, 2, 2).run(10).turn(1).run(2).faults(0, 2, 3).state(0, 2);
        x.run(25).turn(1);
        // The tenth step faults: it is not stacked.
        int[] late = {0, 0, 0, 0, 0, 0, 0, 0, 0, WRONG};
        x = new Board("tenth", Asm.process(0, 16, 0, late)).run(10).faults(0, 2, 1).sp(0, 4160).pc(0, 30);
    }

    /** "how many steps were made, those that faulted too" */
    private static void faultedStepsCount() {
        for (int policy = 0; policy < 3; policy++) {
            Board x = new Board("steps " + policy, Asm.process(0, 8, policy, WRONG));
            x.run(10, policy + 1).faults(0, 2, policy + 1).now(10);
        }
        int[] code = {Asm.spDown(1), Asm.add(7, 1), Asm.branch(-3)};
        new Board("tenth", Asm.process(0, 8, 0, code)).run(20, 10).faults(0, 6, 1);
        int[] over = Asm.join(new int[] {Asm.spUp(8)}, Asm.ask(Asm.COMMAND, 1, 0, 0), new int[] {Asm.rest()});
        new Board("frame", Asm.process(0, 8, 0, over)).run(20, 6).faults(0, 6, 1);
    }

    /** "if it was restarted because of faults fewer times than POLICY ..., is restarted; else it is stopped" */
    private static void policyCountsRestarts() {
        for (int policy = 0; policy < 16; policy++) {
            Board x = new Board("POLICY " + policy, Asm.process(0, 8, policy, Asm.mov(0, 3), WRONG));
            x.run(2 * policy + 1).faults(0, policy == 0 ? 0 : 2, policy).state(0, 0).register(0, 0, 3);
            x.run(1).faults(0, 2, policy + 1).state(0, 2).register(0, 0, 3).pc(0, 14).run(5, 0);
        }
    }

    private static void policyCountsSinceBoot() {
        Board x = new Board("boot", Asm.process(0, 8, 1, WRONG), Asm.process(0, 8, 2, WRONG));
        x.run(20, 5).state(0, 2).state(1, 2).faults(0, 2, 2).faults(1, 2, 3).boot(2).faults(0, 0, 0).faults(1, 0, 0);
        x.run(2).state(0, 0).state(1, 0).run(20, 3).faults(0, 2, 2).faults(1, 2, 3);
    }

    /** "Process p is restarted, which does not count for POLICY" */
    private static void restartDoesNotCountForPolicy() {
        Board x = new Board("restart", Asm.process(0, 8, 2, Asm.mov(0, 3), WRONG));
        x.restart(0, true).restart(0, true).restart(0, true).run(2).state(0, 0).restart(0, true).run(2).state(0, 0);
        x.restart(0, true).run(2).state(0, 2).faults(0, 2, 3);
        // Nor does it give any back.
        x.restart(0, true).state(0, 0).run(2).state(0, 2).faults(0, 2, 4);
    }

    /** "refused with false if there is none or it is STOPPED" */
    private static void stopIsRefusedForTheStopped() {
        Board x = new Board("stop", COUNT, WAIT, Asm.process(0, 8, 0, WRONG)).run(12);
        x.state(0, 0).state(1, 1).state(2, 2).stop(0, true).stop(1, true).stop(2, false);
        x.stop(0, false).stop(1, false).stop(3, false).stop(-1, false).stop(4, false).stop(MIN, false).stop(MAX, false);
        x.state(0, 2).state(1, 2).run(5, 0).restart(0, true).stop(0, true).stop(0, false);
        x.restart(3, false).restart(-1, false).restart(4, false).restart(MIN, false).restart(MAX, false).run(5, 0);
    }

    /** "its registers and memory stay, also the words where its grants were" */
    private static void stopKeepsRegistersAndMemory() {
        int[] code = Asm.join(new int[] {Asm.mov(3, 9), Asm.strSp(3, 0)}, Asm.ask(Asm.COMMAND, 0, 1, 200),
            Asm.ask(Asm.COMMAND, 2, 1, 0), new int[] {Asm.mov(7, 8), Asm.rest()});
        for (int steps = 1; steps <= 12; steps++) {
            Board x = new Board("stop after " + steps, Asm.process(0, 10, 0, code)).run(steps);
            int[] registers = new int[12];
            int[] words = new int[16];
            for (int k = 0; k < 16; k++) {
                words[k] = x.kernel.word(k);
            }
            for (int k = 0; k < 12; k++) {
                registers[k] = x.kernel.register(0, k);
            }
            x.stop(0, true).state(0, 2).registers(0, registers).words(0, words).open(0, 16).turn(0).now(steps);
            x.grant(0, 0, -1).grant(0, 2, -1).queued(0, 0).run(250, 0).registers(0, registers).words(0, words);
        }
    }

    /** "RESTARTED: the process starts (as above), from any state." */
    private static void restartFromEveryState() {
        Board x = new Board("any state", COUNT, WAIT, Asm.process(0, 8, 0, WRONG)).run(12);
        for (int p = 0; p < 3; p++) {
            x.restart(p, true).state(p, 0).sp(p, 4128 + 64 * p).pc(p, 12 + 16 * p).register(p, 7, 0);
        }
        for (int k = 0; k < 48; k++) {
            x.word(k, 0);
        }
        x.faults(2, 2, 1).turn(2).now(12);
        // In a frame, and in none.
        x = new Board("frame", COUNT).run(10).sp(0, 4096).restart(0, true).sp(0, 4128).pc(0, 12).run(1).pc(0, 14);
        x.restart(0, true).sp(0, 4128).pc(0, 12).restart(0, true).pc(0, 12).register(0, 7, 0);
    }
}
