/** Faults, frames, restart and stop: promises 12 and 18 to 21. */
public final class FaultTest {
    private static final int WRONG = 0xFFFF;

    public static void main(String[] args) {
        fetch();
        fetchAtZero();
        leastNumber();
        protection();
        closedWords();
        frameWords();
        frameShifted();
        frameAtTheEdges();
        callThatCannotStack();
        sliceThatCannotStack();
        grantOverFrame();
        inputIntoFrame();
        policy();
        restartDoesNotCount();
        restartFromAnyState();
        restartForgets();
        stopKeeps();
        wrongNumbers();
        Checks.close("FaultTest");
    }

    private static void fetch() {
        Board x = new Board("behind the code", Asm.process(0, 8, 0, Asm.mov(0, 5), Asm.mov(1, 6)));
        x.run(2).faults(0, 0, 0).run(1).faults(0, 1, 1).state(0, 2).pc(0, 16).registers(0, 5, 6).run(1, 0);
        int[] first = Asm.process(0, 8, 0, Asm.YIELD, Asm.rest());
        x = new Board("another's code", first, Asm.process(0, 8, 0, Asm.branch(-10), Asm.rest()));
        x.run(2).pc(1, 28 + 4 - 20).state(1, 0).run(1).faults(1, 1, 1).faults(0, 0, 0).state(0, 1);
        // The header belongs to the code: 0, the halfword of POLICY, shifts nothing.
        x = new Board("header as code", Asm.process(0, 8, 0, Asm.mov(0, 1), Asm.branch(-4)));
        x.run(2).pc(0, 10).run(3).faults(0, 0, 0).pc(0, 10);
    }

    /** PC may come to address 0: the halfword there is 21570, which is no instruction. */
    private static void fetchAtZero() {
        Board x = new Board("address 0", Asm.process(0, 8, 1, Asm.branch(-8), Asm.rest()));
        x.run(1).pc(0, 0).run(1).faults(0, 2, 1).burn(0, Asm.mov(6, 66), Asm.MAGIC).run(2).register(0, 6, 66);
    }

    private static void leastNumber() {
        Board x = new Board("3 before 4", Asm.process(0, 8, 0, Asm.mov(0, 1), Asm.str(1, 0, 0)));
        x.run(2).faults(0, 3, 1);
        x = new Board("4 alone", Asm.process(0, 8, 0, Asm.mov(0, 4), Asm.str(1, 0, 0)));
        x.run(2).faults(0, 4, 1);
        x = new Board("4 before 5", Asm.process(0, 16, 0, Asm.pop(256)));
        x.run(1).faults(0, 4, 1).sp(0, 4160).pc(0, 12);
        x = new Board("5 alone", Asm.process(0, 8, 0, Asm.pop(256)));
        x.run(1).faults(0, 5, 1).sp(0, 4128).pc(0, 12);
    }

    /** Loads the word at the address with a process 1 whose block is 4160 .. 4223 and code 16 .. 31. */
    private static void load(int address, int fault) {
        int[] code = {Asm.literal(0, 1), Asm.ldr(1, 0, 0), Asm.rest(), 0, address & 65535, address >>> 16};
        Board x = new Board("load " + address, Asm.process(0, 8, 0, Asm.YIELD), Asm.process(0, 8, 0, code),
            Asm.process(0, 8, 0, Asm.YIELD));
        x.run(3).faults(1, fault, fault == 0 ? 0 : 1).register(1, 0, address);
    }

    private static void store(int address, int fault) {
        int[] code = {Asm.literal(0, 1), Asm.str(0, 0, 0), Asm.rest(), 0, address & 65535, address >>> 16};
        Board x = new Board("store " + address, Asm.process(0, 8, 0, Asm.YIELD), Asm.process(0, 8, 0, code),
            Asm.process(0, 8, 0, Asm.YIELD));
        x.run(3).faults(1, fault, fault == 0 ? 0 : 1);
        if (fault == 0) {
            x.word((address - 4096) / 4, address);
        }
    }

    private static void protection() {
        // The code of process 1 is the halfwords 8 .. 19, so the addresses 16 .. 39.
        int[] mayLoad = {16, 36, 4160, 4220};
        int[] mayNotLoad = {0, 12, 40, 44, 4096, 4156, 4224, 4604, 4608, 508, 512, -4, Integer.MIN_VALUE, 0x7FFFFFFC};
        for (int address : mayLoad) {
            load(address, 0);
        }
        for (int address : mayNotLoad) {
            load(address, 4);
            store(address, 4);
        }
        store(4160, 0);
        store(4220, 0);
        store(16, 4);
        store(36, 4);
        int[] odd = {17, 18, 19, 4161, 4162, 4163, -1, Integer.MAX_VALUE};
        for (int address : odd) {
            load(address, 3);
            store(address, 3);
        }
    }

    private static void closedWords() {
        for (int offset = 0; offset < 8; offset++) {
            int want = offset < 4 ? 0 : 4;
            int[] code = Asm.join(Asm.ask(Asm.COMMAND, 0, 0, 0), new int[] {Asm.ldrSp(3, offset), Asm.rest()});
            Board x = new Board("closed load " + offset, Asm.process(1, 24, 0, code));
            x.open(0, 32).run(4).open(0, 28).run(1).faults(0, want, want == 0 ? 0 : 1);
            code = Asm.join(Asm.ask(Asm.COMMAND, 0, 0, 0), new int[] {Asm.strSp(1, offset), Asm.rest()});
            x = new Board("closed store " + offset, Asm.process(1, 24, 0, code));
            x.run(5).faults(0, want, want == 0 ? 0 : 1);
        }
    }

    private static void frameWords() {
        int[] code = {Asm.mov(7, 19), Asm.blx(7), Asm.rest(), Asm.mov(0, 40), Asm.mov(1, 41), Asm.mov(2, 42),
            Asm.mov(3, 43), Asm.mov(4, 44), Asm.cmp(0, 40), Asm.call(9), Asm.rest()};
        Board x = new Board("frame", Asm.process(0, 12, 0, code));
        x.run(8).sp(0, 4144).flags(0, 6).lr(0, 17).pc(0, 30);
        x.run(1).sp(0, 4112);
        x.words(4, -1, 41, 42, 43, 0, 17, 32, 6 << 28 | 1 << 24, 0);
        x.registers(0, -1, 41, 42, 43, 44).lr(0, 17).pc(0, 32).flags(0, 6);
        x.run(1).sp(0, 4112).run(1).sp(0, 4144).registers(0, -1, 41, 42, 43, 44).lr(0, 17).pc(0, 32).flags(0, 6);
    }

    private static void frameShifted() {
        // Word 4 of a frame becomes 0, whatever was there.
        new Board("word 4", Asm.process(0, 12, 0, Asm.mov(5, 55), Asm.spDown(8), Asm.strSp(5, 4), Asm.spUp(8),
            Asm.call(4), Asm.rest())).run(3).word(8, 55).run(2).word(8, 0);
        int[] code = {Asm.sub(0, 1), Asm.call(4), Asm.rest()};
        Board x = new Board("shifted", Asm.process(0, 13, 0, code));
        x.run(1).sp(0, 4148).run(1).sp(0, 4112).flags(0, 8).pc(0, 16);
        x.words(3, 0, -1, 0, 0, 0, 0, 0, 16, (8 << 28) + (1 << 24) + 512, 0);
        x.run(1).sp(0, 4148).register(0, 0, -1).flags(0, 8);
    }

    private static void frameAtTheEdges() {
        new Board("least", Asm.process(0, 8, 0, Asm.call(4), Asm.rest())).run(1).faults(0, 0, 0).sp(0, 4096);
        new Board("too low", Asm.process(0, 8, 0, Asm.spDown(1), Asm.call(4))).run(2).faults(0, 6, 1).sp(0, 4124);
        new Board("nine", Asm.process(0, 9, 0, Asm.call(4), Asm.rest())).run(1).faults(0, 0, 0).sp(0, 4096);
        new Board("whole", Asm.process(0, 16, 0, Asm.call(4), Asm.rest())).run(1).faults(0, 0, 0).sp(0, 4128);
        new Board("too high", Asm.process(0, 16, 0, Asm.spUp(1), Asm.call(4))).run(2).faults(0, 0, 0).sp(0, 4128);
        new Board("beyond", Asm.process(0, 16, 0, Asm.spUp(2), Asm.call(4))).run(2).faults(0, 6, 1).sp(0, 4168);
    }

    private static void callThatCannotStack() {
        int[] code = {Asm.spDown(2), Asm.mov(0, 7), Asm.SUBSCRIBE, Asm.rest()};
        Board x = new Board("call faults", Asm.process(0, 8, 0, code));
        x.run(3).faults(0, 6, 1).pc(0, 16).sp(0, 4120).register(0, 0, 7).state(0, 2).grant(0, 0, -1);
        for (int k = 0; k < 16; k++) {
            x.word(k, 0);
        }
    }

    private static void sliceThatCannotStack() {
        int[] code = {Asm.spDown(2), Asm.add(7, 1), Asm.branch(-3)};
        Board x = new Board("slice faults", Asm.process(0, 8, 1, code), Asm.process(0, 8, 0, Asm.rest()));
        x.run(9).faults(0, 0, 0).register(0, 7, 4).run(1).faults(0, 6, 1).register(0, 7, 0).sp(0, 4128).turn(0);
        x.run(1).turn(1).run(9).run(1).turn(0).run(9).faults(0, 6, 2).state(0, 2);
        // The tenth instruction was done before.
        x.register(0, 7, 5).sp(0, 4120).pc(0, 16);
    }

    private static void grantOverFrame() {
        int[] code = Asm.join(new int[] {Asm.spUp(8), Asm.mov(3, 9)}, Asm.ask(Asm.COMMAND, 1, 2, 0),
            new int[] {Asm.add(7, 1), Asm.rest()});
        Board x = new Board("grant over frame", Asm.process(0, 8, 0, code));
        x.run(6).grant(0, 1, 4152).open(0, 14).sp(0, 4128).state(0, 0);
        // Word 0 of the grant lies over PC and became 1, word 1 over the flags and became 0.
        x.registers(0, 0, 2, 0, 9).lr(0, 0).pc(0, 1).flags(0, 0).words(8, 0, 2, 0, 9, 0, 0, 1, 0);
        x.type(33, true).pc(0, 0).words(14, 0, 0);
        x.run(1).faults(0, 6, 1).state(0, 2).sp(0, 4128).registers(0, 0, 2, 0, 9).register(0, 7, 0).open(0, 16);
        x.run(5, 0).restart(0, true).sp(0, 4128).pc(0, 12).word(9, 0).registers(0, 0, 0, 0, 0);
    }

    /** The console's buffer lies where the frame of the waiting process is. */
    private static void inputIntoFrame() {
        int[] code = Asm.join(new int[] {Asm.mov(0, 1), Asm.addrSp(1, 0), Asm.sub(1, 8), Asm.mov(2, 1), Asm.ALLOW},
            Asm.ask(Asm.COMMAND, 1, 2, 0), new int[] {Asm.YIELD, Asm.rest()});
        Board x = new Board("input into PC", Asm.process(1, 16, 0, code));
        x.run(10).state(0, 1).pc(0, 32).type(13, true).pc(0, 13).state(0, 1).word(14, 13);
        code[2] = Asm.sub(1, 4);
        x = new Board("input into flags", Asm.process(1, 16, 0, code));
        x.run(10).flags(0, 6).type(0x51000200, true).flags(0, 5).state(0, 1);
        code[9] = Asm.rest();
        x = new Board("input into flags of one that is ready", Asm.process(1, 16, 0, code));
        x.run(10).flags(0, 6).type(0x91000200, true).flags(0, 9).sp(0, 4128).run(1).flags(0, 9).sp(0, 4128 + 36);
        code[9] = Asm.YIELD;
        code[9] = Asm.rest();
        code[2] = Asm.sub(1, 8);
        x = new Board("odd PC in a frame", Asm.process(1, 16, 0, code));
        x.run(10).type(15, true).pc(0, 15).run(1).pc(0, 16).register(0, 1, 4096 + 64).faults(0, 0, 0);
    }

    private static void policy() {
        for (int policy = 0; policy <= 15; policy += 5) {
            Board x = new Board("policy " + policy, Asm.process(0, 8, policy, Asm.mov(0, 3), WRONG));
            for (int k = 1; k <= policy; k++) {
                x.run(2).faults(0, 2, k).state(0, 0).register(0, 0, 0).pc(0, 12);
            }
            x.run(2).faults(0, 2, policy + 1).state(0, 2).register(0, 0, 3).pc(0, 14).run(10, 0);
            x.restart(0, true).run(1).state(0, 0).run(1).faults(0, 2, policy + 2).state(0, 2);
        }
    }

    private static void restartDoesNotCount() {
        Board x = new Board("restart", Asm.process(0, 8, 1, Asm.mov(0, 3), WRONG));
        x.run(1).register(0, 0, 3);
        for (int k = 0; k < 5; k++) {
            x.restart(0, true).register(0, 0, 0).run(1);
        }
        x.faults(0, 0, 0).run(1).faults(0, 2, 1).state(0, 0).run(2).faults(0, 2, 2).state(0, 2);
    }

    private static void restartFromAnyState() {
        int[] code = Asm.join(new int[] {Asm.strSp(1, 0)}, Asm.ask(Asm.SUBSCRIBE, 2, 12, 5),
            Asm.ask(Asm.COMMAND, 2, 1, 0), new int[] {Asm.mov(7, 7), Asm.YIELD, Asm.rest()});
        Board x = new Board("restart", Asm.process(1, 16, 0, code));
        x.run(11).state(0, 1).word(30, 1).grant(0, 2, 4096 + 120).register(0, 7, 7).open(0, 28);
        x.restart(0, true).state(0, 0).grant(0, 2, -1).open(0, 32).register(0, 7, 0).sp(0, 4160).pc(0, 12);
        for (int k = 0; k < 32; k++) {
            x.word(k, 0);
        }
        x.sample(1, 0).queued(0, 0);
        x.run(9).grant(0, 2, 4096 + 120).sample(4, 1).queued(0, 1).word(31, 1);
        x.restart(0, true).queued(0, 0).run(11).state(0, 1).stop(0, true).restart(0, true).state(0, 0).run(11);
        x.state(0, 1).sample(6, 1).state(0, 0).registers(0, 6, 1, 2, 5);
    }

    /** What a process said to the drivers before is gone behind a restart, a fault and a stop. */
    private static void restartForgets() {
        for (int way = 0; way < 3; way++) {
            for (int driver = 0; driver < 3; driver++) {
                int[] code = Asm.join(new int[] {Asm.mov(0, driver), Asm.addrSp(1, 0), Asm.mov(2, 1), Asm.ALLOW},
                    Asm.ask(Asm.SUBSCRIBE, driver, 12, 5), Asm.ask(Asm.COMMAND, driver, driver == 1 ? 2 : 1, 1),
                    new int[] {way == 1 ? 0xFFFF : Asm.rest()});
                Board x = new Board("forget " + way + driver, Asm.process(1, 16, 1, code));
                x.run(12).grant(0, driver, 4216).open(0, 28);
                if (way == 0) {
                    x.restart(0, true);
                } else if (way == 1) {
                    x.run(1).faults(0, 2, 1);
                } else {
                    x.stop(0, true).grant(0, driver, -1).restart(0, true);
                }
                for (int k = 0; k < 3; k++) {
                    x.grant(0, k, -1);
                }
                x.open(0, 32).queued(0, 0).sample(1, 0);
            }
        }
        forgetsFunctionAndBuffer();
        int[] flags = {Asm.mov(7, 17), Asm.blx(7), Asm.sub(0, 1), Asm.rest()};
        Board x = new Board("LR and flags", Asm.process(0, 8, 0, flags));
        x.run(3).lr(0, 17).flags(0, 8).restart(0, true).lr(0, 0).flags(0, 0);
    }

    private static void forgetsFunctionAndBuffer() {
        int[] code = Asm.join(new int[] {Asm.mov(0, 1), Asm.addrSp(1, 0), Asm.mov(2, 1), Asm.ALLOW},
            Asm.ask(Asm.SUBSCRIBE, 1, 12, 5), new int[] {Asm.rest()});
        int[] late = Asm.join(code, Asm.ask(Asm.COMMAND, 1, 2, 0), new int[] {Asm.YIELD, Asm.rest()});
        Board x = new Board("function and buffer", Asm.process(1, 16, 0, late));
        x.run(8).grant(0, 1, 4216).restart(0, true);
        // From now on it begins with a branch to the COMMAND.
        x.burn(6, Asm.branch(7), Asm.mov(0, 1)).run(6).state(0, 1).word(30, 1);
        x.type(44, true).word(30, 0).word(16, 0).state(0, 1).queued(0, 0);
        late[10] = Asm.mov(1, 1);
        late[11] = Asm.mov(2, 1);
        x = new Board("buffer put out", Asm.process(1, 16, 0, late));
        x.run(8).restart(0, true).burn(6, Asm.branch(7), Asm.mov(0, 1)).run(5).register(0, 0, 0).outputs(0).word(31, 0);
    }

    private static void stopKeeps() {
        int[] code = Asm.join(new int[] {Asm.mov(3, 8), Asm.strSp(3, 0)}, Asm.ask(Asm.SUBSCRIBE, 2, 12, 5),
            Asm.ask(Asm.COMMAND, 2, 1, 0), new int[] {Asm.rest()});
        Board x = new Board("stop", Asm.process(0, 10, 0, code), Asm.process(0, 8, 0, Asm.rest()));
        x.run(10).sample(3, 1).queued(0, 1).state(0, 0).turn(0);
        x.stop(0, true).state(0, 2).queued(0, 0).grant(0, 2, -1).open(0, 16).turn(0);
        x.words(14, 0, 1).word(10, 8).registers(0, 0, 1, 0, 8).sp(0, 4104).pc(0, 32).faults(0, 0, 0);
        x.sample(3, 0).stop(0, false).run(3).turn(1).state(0, 2).registers(0, 0, 1, 0, 8).stop(1, true).run(2, 0);
        x.restart(0, true).word(15, 0).word(10, 0).sp(0, 4136).run(2).turn(0).register(0, 3, 8);
    }

    private static void wrongNumbers() {
        Board x = new Board("numbers", Asm.process(0, 8, 0, Asm.rest()));
        int[] none = {-1, 1, 4, Integer.MIN_VALUE, Integer.MAX_VALUE};
        for (int p : none) {
            x.restart(p, false).stop(p, false).faults(p, -1, -1).register(p, 8, 0).state(p, -1).queued(p, -1);
            x.register(0, p + 100, 0);
        }
        x.register(0, -1, 0).register(0, 12, 0).register(0, 8, 4128).state(0, 0);
        Board y = new Board("flags", Asm.process(0, 8, 0, Asm.sub(0, 1), Asm.rest())).run(1).flags(0, 8);
        y.register(0, 12, 0).register(0, 13, 0).register(0, -1, 0);
        x.word(-1, 0).word(128, 0).word(Integer.MIN_VALUE, 0).word(Integer.MAX_VALUE, 0);
    }
}
