/** A new object, burn, boot, block and open: promises 1, 2, 3, 14 and 15. */
public final class LoadingTest {
    private static final int[] LOOP = {Asm.add(7, 1), Asm.branch(-3)};

    public static void main(String[] args) {
        newObject();
        burnAnswersTheOldHalfword();
        burnIsSeenByRunningCode();
        headersThatEndLoading();
        headersThatAreNoProcess();
        loadingGoesOnBehindNoProcess();
        theEndOfTheFlash();
        blocks();
        atMostFour();
        howAProcessStarts();
        bootForgets();
        bootForgetsThoseThatAreGone();
        openWords();
        Checks.close("LoadingTest");
    }

    private static void newObject() {
        Board x = new Board("new");
        GrantKernel fresh = new GrantKernel();
        for (int k = 0; k < 256; k++) {
            Checks.due("new: burn(" + k + ", 7)", fresh.burn(k, 7), 0);
        }
        fresh = new GrantKernel();
        for (int k = -1; k < 129; k++) {
            Checks.due("new: word(" + k + ")", fresh.word(k), 0);
        }
        Checks.due("new: now()", fresh.now(), 0);
        Checks.due("new: turn()", fresh.turn(), -1);
        Checks.due("new: outputs()", fresh.outputs(), 0);
        Checks.due("new: run(5)", fresh.run(5), 0);
        Checks.due("new: now() after run(5)", fresh.now(), 5);
        Checks.due("new: turn() after run(5)", fresh.turn(), -1);
        Checks.due("new: sample(1)", fresh.sample(1), 0);
        Checks.due("new: boot()", fresh.boot(), 0);
        for (int p = -1; p < 5; p++) {
            x.state(p, -1).block(p, -1).open(p, -1).queued(p, -1).faults(p, -1, -1);
            x.grant(p, 0, -1).register(p, 8, 0).restart(p, false).stop(p, false);
        }
        x.state(Integer.MIN_VALUE, -1).state(Integer.MAX_VALUE, -1);
        for (int k = 0; k < 8; k++) {
            x.type(k, true);
        }
        x.type(8, false);
    }

    private static void burnAnswersTheOldHalfword() {
        Board x = new Board("burn");
        x.burn(0, 65535, 0).burn(0, 1, 65535).burn(255, 2, 0).burn(255, 3, 2);
        x.burn(-1, 0, -1).burn(256, 0, -1).burn(0, -1, -1).burn(0, 65536, -1);
        x.burn(Integer.MIN_VALUE, 0, -1).burn(Integer.MAX_VALUE, 0, -1);
        x.burn(3, Integer.MIN_VALUE, -1).burn(3, Integer.MAX_VALUE, -1).burn(3, 0, 0);
        x.burn(0, 0, 1);
    }

    private static void burnIsSeenByRunningCode() {
        Board x = new Board("burnt code", Asm.process(0, 8, 0, LOOP));
        x.run(2).register(0, 7, 1);
        x.burn(6, Asm.add(7, 5), Asm.add(7, 1));
        x.run(2).register(0, 7, 6);
        // The header is code too, but the process goes on with what it was loaded with.
        for (int k = 0; k < 6; k++) {
            x.kernel.burn(k, 0);
        }
        x.run(2).register(0, 7, 11).state(0, 0).restart(0, true).sp(0, 4128).pc(0, 12);
        x.run(1).register(0, 7, 5);
        x.boot(0).state(0, -1);
    }

    /** How many processes are there with halfword k of the first of two headers changed? */
    private static void changed(int k, int h, int want) {
        int[] first = Asm.process(0, 8, 0, LOOP);
        int[] second = Asm.process(0, 8, 0, LOOP);
        first[k] = h;
        Board x = new Board("header " + k + " = " + h);
        x.burnAll(first, second);
        x.boot(want);
        if (want == 1 && k > 1) {
            // The second one alone was loaded.
            x.block(0, 4096).pc(0, 28).open(0, 16);
        }
    }

    private static void headersThatEndLoading() {
        changed(0, 21570, 2);
        changed(0, 21569, 0);
        changed(0, 0, 0);
        changed(1, 0, 0);
        changed(1, 6, 0);
        changed(1, 7, 0);
        changed(1, 9, 0);
        changed(1, 10, 1);
        changed(1, 16, 1);
        changed(1, 256, 1);
        changed(1, 257, 0);
        changed(1, 258, 0);
        changed(1, 65534, 0);
    }

    private static void headersThatAreNoProcess() {
        changed(2, 1, 2);
        changed(2, 2, 2);
        changed(2, 3, 1);
        changed(2, 32, 1);
        changed(2, 65535, 1);
        changed(3, 7, 1);
        changed(3, 16, 2);
        changed(3, 17, 1);
        changed(3, 65535, 1);
        changed(4, 5, 1);
        changed(4, 7, 2);
        changed(4, 8, 1);
        changed(4, 65535, 1);
        changed(5, 15, 2);
        changed(5, 16, 1);
        changed(5, 65535, 1);
        for (int size = 0; size < 3; size++) {
            int words = 16 << size;
            Board x = new Board("keep of size " + size, Asm.process(size, words, 0, LOOP));
            x.state(0, 0).sp(0, 4096 + 4 * words);
            x.burn(3, words + 1, words).boot(0);
        }
    }

    private static void loadingGoesOnBehindNoProcess() {
        int[] bad = Asm.process(0, 7, 0, LOOP);
        Board x = new Board("behind", bad, Asm.process(0, 8, 0, LOOP), bad, bad, Asm.process(1, 9, 0, LOOP));
        x.boot(2).block(0, 4096).pc(0, 2 * (8 + 6)).block(1, 4096 + 128).pc(1, 2 * (32 + 6));
    }

    private static void theEndOfTheFlash() {
        int[] filler = new int[248];
        System.arraycopy(Asm.process(0, 7, 0), 0, filler, 0, 6);
        filler[1] = 248;
        Board x = new Board("end of flash", filler, Asm.process(0, 8, 0, LOOP));
        x.boot(1).pc(0, 508).run(4).register(0, 7, 2);
        x.burn(249, 10, 8).boot(0);
        // Only four halfwords are left behind the first header.
        x.burn(0, 21570, 21570).burn(1, 252, 248).burn(252, 21570, 6).boot(0);
        x.burn(1, 250, 252).burn(250, 21570, 0).burn(251, 8, 8).boot(0);
        theLastWordOfTheFlash();
    }

    private static void theLastWordOfTheFlash() {
        int[] filler = new int[244];
        System.arraycopy(Asm.process(0, 7, 0), 0, filler, 0, 6);
        filler[1] = 244;
        int[] code = {Asm.mov(0, 254), Asm.add(0, 254), Asm.ldr(1, 0, 0), Asm.rest(), 0x1234, 0x5678};
        Board x = new Board("last word", filler, Asm.process(0, 8, 0, code));
        x.pc(0, 500).run(3).register(0, 1, 0x56781234).faults(0, 0, 0);
    }

    private static void blocks() {
        Board x = new Board("blocks 0 2", Asm.process(0, 8, 0, LOOP), Asm.process(2, 8, 0, LOOP));
        x.boot(2).block(0, 4096).block(1, 4096 + 256).block(2, -1).block(-1, -1);
        x = new Board("blocks 0 1 0 1", Asm.process(0, 8, 0, LOOP), Asm.process(1, 8, 0, LOOP),
            Asm.process(0, 8, 0, LOOP), Asm.process(1, 8, 0, LOOP));
        x.boot(4).block(0, 4096).block(1, 4096 + 4 * 32).block(2, 4096 + 4 * 64).block(3, 4096 + 4 * 96);
        // 2 2 fill the RAM; what does not fit takes no place, and a smaller one behind it may fit.
        x = new Board("blocks 2 2 0", Asm.process(2, 8, 0, LOOP), Asm.process(2, 8, 0, LOOP),
            Asm.process(0, 8, 0, LOOP));
        x.boot(2).block(1, 4096 + 256);
        x = new Board("blocks 2 0 2 1", Asm.process(2, 8, 0, LOOP), Asm.process(0, 8, 0, LOOP),
            Asm.process(2, 8, 0, LOOP), Asm.process(1, 8, 0, LOOP));
        x.boot(3).block(0, 4096).block(1, 4096 + 256).block(2, 4096 + 4 * 96).open(2, 32);
        x.pc(2, 2 * (24 + 6));
    }

    private static void atMostFour() {
        int[] small = Asm.process(0, 8, 0, LOOP);
        Board x = new Board("five", small, small, small, small, small);
        x.boot(4).block(3, 4096 + 192).block(4, -1).state(4, -1).open(4, -1);
    }

    private static void howAProcessStarts() {
        Board x = new Board("start", Asm.process(0, 9, 3, LOOP), Asm.process(1, 20, 3, LOOP));
        for (int k = 0; k < 8; k++) {
            x.register(0, k, 0).register(1, k, 0);
        }
        x.sp(0, 4096 + 36).lr(0, 0).pc(0, 12).flags(0, 0).state(0, 0).queued(0, 0).faults(0, 0, 0);
        x.sp(1, 4096 + 128 + 80).lr(1, 0).pc(1, 28).flags(1, 0).state(1, 0).open(1, 32);
        x.register(0, -1, 0).register(0, 12, 0).register(2, 8, 0).register(-1, 8, 0);
        for (int d = -1; d < 4; d++) {
            x.grant(0, d, -1);
        }
        int[] late = Asm.process(0, 8, 0, LOOP);
        late[4] = 7;
        new Board("entry", late).pc(0, 14).run(2).register(0, 7, 1);
    }

    private static void bootForgets() {
        int[] code = Asm.join(Asm.ask(Asm.ALLOW, 1, 0, 0), new int[] {Asm.addrSp(1, 0), Asm.sub(1, 32),
            Asm.mov(0, 1), Asm.mov(2, 1), Asm.ALLOW}, Asm.ask(Asm.COMMAND, 1, 1, 1), new int[] {0xFFFF});
        Board x = new Board("boot", Asm.process(0, 8, 1, code));
        x.type(5, true).run(14).faults(0, 2, 1).outputs(1).now(14).turn(0);
        x.run(14).faults(0, 2, 2).state(0, 2).outputs(2);
        for (int k = 0; k < 7; k++) {
            x.type(k, true);
        }
        x.type(9, false);
        x.boot(1).now(0).turn(-1).outputs(0).output(0, 0).faults(0, 0, 0).state(0, 0).grant(0, 1, -1).open(0, 16);
        for (int k = 0; k < 128; k++) {
            x.word(k, 0);
        }
        for (int k = 0; k < 8; k++) {
            x.type(k, true);
        }
        x.type(9, false);
        // The restarts that POLICY allows are counted anew.
        x.run(14).faults(0, 2, 1).state(0, 0);
        x.burn(0, 0, 21570).boot(0).state(0, -1).run(3, 0).now(3).turn(-1);
    }

    private static void bootForgetsThoseThatAreGone() {
        int[] code = Asm.join(new int[] {Asm.mov(7, 9), Asm.strSp(7, 0)}, Asm.ask(Asm.COMMAND, 1, 2, 0),
            Asm.ask(Asm.COMMAND, 2, 1, 0), new int[] {Asm.rest()});
        int[] asker = Asm.process(0, 9, 0, code);
        Board x = new Board("gone", asker, asker);
        x.run(20).words(9, 9).words(25, 9).words(30, 1, 0).words(28, 1, 0);
        x.burn(asker.length, 0, 21570).boot(1).word(25, 0).word(30, 0).word(28, 0).state(1, -1).grant(1, 1, -1);
        x.sample(4, 0).word(28, 0).burn(0, 0, 21570).boot(0).sample(4, 0);
        for (int k = 0; k < 8; k++) {
            x.type(k, true);
        }
        x.type(8, false);
        for (int k = 0; k < 128; k++) {
            x.word(k, 0);
        }
        // Where the grants of the second one were, a large first one has words of its own.
        x.burnAll(asker, asker);
        x.boot(2).run(20).grant(1, 2, 4208).grant(1, 1, 4216);
        int[] fill = {Asm.mov(7, 1), Asm.addrSp(6, 0), Asm.str(7, 6, 4), Asm.str(7, 6, 6), Asm.rest(), 0};
        x.burnAll(Asm.process(2, 24, 0, fill), new int[] {0});
        x.boot(1).run(4).words(28, 1, 0, 1, 0).sample(4, 0).type(5, true).words(28, 1, 0, 1, 0);
    }

    private static void openWords() {
        int[][] want = {{16, 14, 12, 10}, {32, 28, 28, 24}, {64, 56, 56, 56}};
        for (int size = 0; size < 3; size++) {
            int[] code = Asm.join(Asm.ask(Asm.COMMAND, 2, 0, 0), Asm.ask(Asm.COMMAND, 0, 0, 0),
                Asm.ask(Asm.COMMAND, 1, 0, 0), new int[] {Asm.rest()});
            Board x = new Board("open of size " + size, Asm.process(size, 8, 0, code));
            int end = 4096 + (64 << size);
            x.open(0, want[size][0]);
            x.run(4).open(0, want[size][1]).grant(0, 2, end - 8).grant(0, 0, -1).grant(0, 1, -1);
            x.run(4).open(0, want[size][2]).grant(0, 2, end - 8).grant(0, 0, end - 16);
            x.run(4).open(0, want[size][3]).grant(0, 1, end - 24).grant(0, 3, -1).grant(0, -1, -1);
            x.run(4).open(0, want[size][3]).stop(0, true).open(0, want[size][0]).grant(0, 1, -1);
        }
    }
}
