import java.util.Arrays;

/**
 * The edges of PROTECTION, FAULTS and FRAMES, a sentence each, on both sides: promises 12, 15, 18 and 19.
 */
public final class ProtectionEdgeTest {
    private static final int BLOCK = 4096;
    private static final int KEEP = 8;
    /** Open words by SIZE and number of grants. */
    private static final int[][] OPEN = {{16, 14, 12, 10}, {32, 28, 28, 24}, {64, 56, 56, 56}};
    private static final int REST = Asm.rest();

    public static void main(String[] args) {
        for (int size = 0; size < 3; size++) {
            for (int grants = 0; grants < 4; grants++) {
                openSubregions(size, grants);
                loadsAndStores(size, grants);
                pushes(size, grants);
                pops(size, grants);
                stacked(size, grants);
            }
            for (int grants = 0; grants < 3; grants++) {
                taken(size, grants);
            }
            theFirstWord(size);
        }
        ownCode();
        literals();
        fetches();
        aWordsAddressIsAMultipleOf4();
        aValueMustBeOdd();
        theLeastNumberCounts();
        aFaultDoesNothingElse();
        pushAndPopLookFirst();
        fourMoreBytes();
        word4Becomes0();
        aFrameOnTheWayOut();
        faultsAreCounted();
        Checks.close("ProtectionEdgeTest");
    }

    /** How many steps it takes to make so many grants and to come to the end of a slice. */
    private static int stepsFor(int grants) {
        return (4 * grants + 9) / 10 * 10;
    }

    /** A process of the size that makes so many grants, and then does what follows; SP is BLOCK + 32. */
    private static Board after(String name, int size, int grants, int... code) {
        int[] all = new int[stepsFor(grants)];
        Arrays.fill(all, Asm.mov(5, 0));
        for (int driver = 0; driver < grants; driver++) {
            System.arraycopy(Asm.ask(Asm.COMMAND, driver, 0, 0), 0, all, 4 * driver, 4);
        }
        String full = name + ", SIZE " + size + ", " + grants + " grants";
        Board x = new Board(full, Asm.process(size, KEEP, 0, Asm.join(all, code)));
        return x.run(all.length);
    }

    /** Whether the steps fault, the last one alone being able to. */
    private static Board ends(Board x, int steps, int fault) {
        return x.run(steps).faults(0, fault, fault == 0 ? 0 : 1).state(0, fault == 0 ? 0 : 2);
    }

    /** "the first ((B - G) / (B / 8)) of them, whole part" */
    private static void openSubregions(int size, int grants) {
        Board x = after("open", size, grants, REST).open(0, OPEN[size][grants]);
        for (int driver = 0; driver < 3; driver++) {
            x.grant(0, driver, driver < grants ? BLOCK + (64 << size) - 8 * (driver + 1) : -1);
        }
    }

    /** "A process may load from ... open words, store to open words" */
    private static void loadsAndStores(int size, int grants) {
        int last = OPEN[size][grants] - 1;
        int k = last - KEEP;
        ends(after("load the last", size, grants, Asm.ldrSp(5, k), REST), 1, 0);
        ends(after("load behind", size, grants, Asm.ldrSp(5, k + 1), REST), 1, 4);
        ends(after("store the last", size, grants, Asm.mov(5, 55), Asm.strSp(5, k), REST), 2, 0).word(last, 55);
        ends(after("store behind", size, grants, Asm.mov(5, 55), Asm.strSp(5, k + 1), REST), 2, 4).word(last + 1, 0);
        ends(after("load by r3", size, grants, Asm.addrSp(3, k), Asm.ldr(5, 3, 0), REST), 2, 0);
        ends(after("load behind r3", size, grants, Asm.addrSp(3, k), Asm.ldr(5, 3, 1), REST), 2, 4);
        Board x = after("store by r3", size, grants, Asm.addrSp(3, k), Asm.str(3, 3, 0), REST);
        ends(x, 2, 0).word(last, BLOCK + 4 * last);
        ends(after("store behind r3", size, grants, Asm.addrSp(3, k), Asm.str(3, 3, 1), REST), 2, 4).word(last, 0);
    }

    private static void pushes(int size, int grants) {
        int open = OPEN[size][grants];
        int up = open - KEEP;
        Board x = after("push up to the last", size, grants, Asm.mov(5, 55), Asm.spUp(up), Asm.push(96), REST);
        ends(x, 3, 0).word(open - 2, 55).word(open - 1, 0).sp(0, BLOCK + 4 * open - 8);
        x = after("push one behind", size, grants, Asm.mov(5, 55), Asm.spUp(up + 1), Asm.push(96), REST);
        ends(x, 3, 4).word(open - 2, 0).word(open - 1, 0).sp(0, BLOCK + 4 * open + 4);
        x = after("push behind alone", size, grants, Asm.mov(5, 55), Asm.spUp(up + 1), Asm.push(32), REST);
        ends(x, 3, 4).word(open - 1, 0);
    }

    private static void pops(int size, int grants) {
        int open = OPEN[size][grants];
        int up = open - KEEP;
        int[] store = {Asm.mov(7, 77), Asm.strSp(7, up - 1)};
        Board x = after("pop the last", size, grants, Asm.join(store, new int[] {Asm.spUp(up - 2), Asm.pop(96), REST}));
        ends(x, 4, 0).register(0, 5, 0).register(0, 6, 77).sp(0, BLOCK + 4 * open);
        x = after("pop one behind", size, grants, Asm.join(store, new int[] {Asm.spUp(up - 1), Asm.pop(96), REST}));
        ends(x, 4, 4).register(0, 5, 0).register(0, 6, 0).sp(0, BLOCK + 4 * open - 4);
        x = after("pop behind alone", size, grants, Asm.join(store, new int[] {Asm.spUp(up), Asm.pop(32), REST}));
        ends(x, 4, 4).sp(0, BLOCK + 4 * open);
    }

    /** "All eight words must be open": a frame that ends with the last open word, and one that ends behind it. */
    private static void stacked(int size, int grants) {
        int up = OPEN[size][grants] - KEEP;
        int end = BLOCK + 4 * OPEN[size][grants];
        ends(after("stack to the end", size, grants, Asm.spUp(up), Asm.call(4), REST), 2, 0).sp(0, end - 32)
            .register(0, 0, -1);
        ends(after("4 more", size, grants, Asm.spUp(up + 1), Asm.call(4), REST), 2, 0).sp(0, end - 32);
        Board x = after("stack behind", size, grants, Asm.spUp(up + 2), Asm.call(4), REST);
        ends(x, 2, 6).sp(0, end + 8).pc(0, 12 + 2 * stepsFor(grants) + 2).register(0, 0, 0);
    }

    /** "both times": the frame of the call that makes one more grant ends with the last word open before. */
    private static void taken(int size, int grants) {
        int open = OPEN[size][grants];
        int then = OPEN[size][grants + 1];
        int[] call = Asm.ask(Asm.COMMAND, grants, 0, 0);
        Board x = after("taken", size, grants, Asm.join(new int[] {Asm.spUp(open - KEEP)}, call, new int[] {REST}));
        x.run(5).open(0, then).sp(0, BLOCK + 4 * open - 32).state(0, 0);
        ends(x, 1, then == open ? 0 : 6);
        x = after("taken at the end", size, grants, Asm.join(new int[] {Asm.spUp(then - KEEP)}, call, new int[] {REST}));
        ends(x.run(5).open(0, then), 1, 0).sp(0, BLOCK + 4 * then);
        if (then < open) {
            x = after("8 more", size, grants, Asm.join(new int[] {Asm.spUp(then - KEEP + 2)}, call, new int[] {REST}));
            ends(x.run(5).open(0, then), 1, 6).sp(0, BLOCK + 4 * then - 24);
        }
    }

    /** The lower edge of the block: its first word is open, the word before it is not. */
    private static void theFirstWord(int size) {
        int[] first = Asm.process(size, KEEP, 0, Asm.YIELD);
        int[][] codes = {{Asm.ldrSp(5, 0)}, {Asm.strSp(5, 0)}, {Asm.pop(32)}, {Asm.spUp(1), Asm.push(32)},
            {Asm.spUp(8), Asm.call(4)}};
        for (int[] code : codes) {
            int fault = code.length == 2 && code[1] == Asm.call(4) ? 6 : 4;
            for (int down = KEEP; down <= KEEP + 1; down++) {
                int[] second = Asm.process(size, KEEP, 0, Asm.join(new int[] {Asm.spDown(down)}, code));
                Board x = new Board("first word, SIZE " + size + ", down " + down, first, second).run(1);
                x.run(1 + code.length).faults(1, down == KEEP ? 0 : fault, down - KEEP).word((16 << size) - 1, 0);
            }
        }
    }

    /** Three processes with code at 0 .. 23, 24 .. 47 and 48 .. 71; the middle one does what is given. */
    private static Board between(String name, int... code) {
        int[] other = Asm.process(0, KEEP, 0, Asm.YIELD, REST, 1, 2, 3, 4);
        Board x = new Board(name, other, Asm.process(0, KEEP, 0, Arrays.copyOf(code, 6)), other);
        return x.run(1);
    }

    /** "A process may load from its code": its first and its last word, and those of its neighbours. */
    private static void ownCode() {
        int[][] rows = {{20, 4}, {24, 0}, {44, 0}, {48, 4}, {68, 4}, {0, 4}};
        for (int[] row : rows) {
            Board x = between("load code " + row[0], Asm.mov(0, row[0]), Asm.ldr(1, 0, 0), REST, REST, 0x1234, 0x5678);
            x.run(2).faults(1, row[1], row[1] == 0 ? 0 : 1);
            x.register(1, 1, row[0] == 24 ? 12 << 16 | Asm.MAGIC : row[0] == 44 ? 0x56781234 : 0);
            x = between("store code " + row[0], Asm.mov(0, row[0]), Asm.str(1, 0, 0), REST);
            x.run(2).faults(1, 4, 1);
        }
    }

    /** Loads by PC: the last word of the code is 44, the word behind it is another's. */
    private static void literals() {
        Board x = between("the last word", Asm.literal(1, 1), REST, REST, REST, 0x1111, 0x2222);
        x.run(1).register(1, 1, 0x22221111).faults(1, 0, 0);
        x = between("the word behind", Asm.literal(1, 2), REST);
        x.run(1).register(1, 1, 0).faults(1, 4, 1);
        x = between("from an odd halfword", Asm.mov(2, 2), Asm.literal(1, 1), REST, REST, 0x1111, 0x2222);
        x.run(2).register(1, 1, 0x22221111);
        x = between("behind an odd halfword", Asm.mov(2, 2), Asm.literal(1, 2), REST);
        x.run(2).faults(1, 4, 1).register(1, 1, 0).pc(1, 38);
    }

    /** "1 the instruction does not lie in the code" */
    private static void fetches() {
        Board x = between("to the last halfword", Asm.branch(3), 0, 0, 0, 0, Asm.mov(1, 9)).run(1).pc(1, 46);
        x.run(1).faults(1, 0, 0).register(1, 1, 9).pc(1, 48).run(1).faults(1, 1, 1).pc(1, 48);
        x = between("behind it", Asm.branch(4)).run(1).pc(1, 48).run(1).faults(1, 1, 1);
        x = between("to the first halfword", Asm.branch(-8)).run(1).pc(1, 24).run(1).faults(1, 2, 1);
        x = between("before it", Asm.branch(-9)).run(1).pc(1, 22).run(1).faults(1, 1, 1).pc(1, 22);
        x = new Board("to address 0", Asm.process(0, KEEP, 0, Asm.branch(-8), REST)).burn(0, Asm.mov(6, 66), Asm.MAGIC);
        x.run(1).pc(0, 0).run(1).pc(0, 2).register(0, 6, 66).faults(0, 0, 0);
        x = new Board("before address 0", Asm.process(0, KEEP, 0, Asm.branch(-9), REST)).run(1).pc(0, -2);
        x.run(1).faults(0, 1, 1).pc(0, -2);
        int[] far = {-1, 513, 4097, 4161, Bench.MAX, Bench.MIN + 1, 65537};
        for (int target : far) {
            int[] code = {Asm.literal(0, 0), Asm.branch(1), target & 65535, target >>> 16, Asm.bx(0), 0};
            x = between("jump to " + (target - 1), code).run(3).pc(1, target - 1).faults(1, 0, 0);
            x.run(1).faults(1, 1, 1).pc(1, target - 1).state(1, 2);
        }
    }

    /** "3 an address of a word is not a multiple of 4" */
    private static void aWordsAddressIsAMultipleOf4() {
        for (int more = -3; more <= 4; more++) {
            int fault = (more & 3) == 0 ? 0 : 3;
            int[] r = {Bench.BLOCK + 40 + more, 5};
            Board x = Bench.before("load " + more, 0, r, Asm.ldr(1, 0, 1)).run(1).faults(0, fault, fault == 0 ? 0 : 1);
            x.register(0, 1, fault == 0 ? 0 : 5);
            x = Bench.before("store " + more, 0, r, Asm.str(1, 0, 1)).run(1).faults(0, fault, fault == 0 ? 0 : 1);
            for (int k = 9; k < 14; k++) {
                x.word(k, fault == 0 && 4 * k == 44 + more ? 5 : 0);
            }
        }
    }

    /** "5 a value that must be odd is not" */
    private static void aValueMustBeOdd() {
        int[] values = {Bench.AT + 4, Bench.AT + 5, 0, 1, -1, -2, Bench.MIN, Bench.MIN + 1, Bench.MAX, Bench.MAX - 1};
        for (int value : values) {
            boolean odd = (value & 1) == 1;
            int[] r = {value, value, value};
            int[][] ways = {{Asm.bx(1)}, {Asm.blx(1)}, {Asm.push(2), Asm.pop(256)}};
            for (int[] way : ways) {
                Board x = Bench.before("value " + value, 0, r, way).run(way.length).faults(0, odd ? 0 : 5, odd ? 0 : 1);
                x.pc(0, odd ? value - 1 : Bench.AT + 2 * way.length - 2);
                x.lr(0, odd && way[0] == Asm.blx(1) ? Bench.AT + 3 : 0);
            }
        }
    }

    /** "of several faults the one with the least number counts" */
    private static void theLeastNumberCounts() {
        // 3 and 4: an address that is no multiple of 4 and not open either.
        int[] closed = {1, 2, 3, 4093, 4353, -1, Bench.MAX};
        for (int address : closed) {
            Bench.before("load 3, 4", 0, new int[] {address}, Asm.ldr(1, 0, 0)).run(1).faults(0, 3, 1);
            Bench.before("store 3, 4", 0, new int[] {address}, Asm.str(1, 0, 0)).run(1).faults(0, 3, 1);
        }
        // 4 and 5: the word for PC is even (0), and another word, or itself, is not open.
        Bench.before("pop 4, 5", 0, new int[1], Asm.spUp(32), Asm.pop(256)).run(2).faults(0, 4, 1);
        Bench.before("pop 5", 0, new int[1], Asm.spUp(31), Asm.pop(256)).run(2).faults(0, 5, 1);
        Bench.before("pop 4, 5 of two", 0, new int[1], Asm.spDown(33), Asm.pop(257)).run(2).faults(0, 4, 1);
        Bench.before("pop 5 of two", 0, new int[1], Asm.spDown(32), Asm.pop(257)).run(2).faults(0, 5, 1);
        // 1 and 2: what lies behind the code is no instruction either.
        Board x = new Board("1, 2", Asm.process(0, KEEP, 0, 0, 0), new int[] {0xFFFF}).run(2).faults(0, 0, 0);
        x.run(1).faults(0, 1, 1);
        // 2 and 5: a jump by a register that is none, or with lowest bits, is UNDEFINED before it is even.
        Bench.before("2, 5", 0, new int[8], Asm.bx(8)).run(1).faults(0, 2, 1);
        Bench.before("2, 5 bits", 0, new int[8], Asm.bx(0) + 1).run(1).faults(0, 2, 1);
    }

    /** "An instruction that faults does nothing else (a CALL whose stacking faults leaves PC at the CALL)" */
    private static void aFaultDoesNothingElse() {
        int[] r = {1, 2, 3, 4, 5, 6, 7, 8};
        int[][] codes = {{Asm.ldr(0, 0, 0), 3}, {Asm.str(0, 0, 0), 3}, {Asm.ldr(0, 4, 31), 3}, {Asm.ldr(5, 7, 31), 4},
            {Asm.str(5, 7, 31), 4}, {Asm.ldrSp(0, 32), 4}, {Asm.strSp(0, 32), 4}, {Asm.literal(0, 255), 4},
            {Asm.bx(1), 5}, {Asm.blx(1), 5}, {Asm.bx(14), 5}, {Asm.pop(256), 5}, {Asm.pop(511), 5}, {0xDE00, 2},
            {0xFFFF, 2}, {0xB100, 2}, {0xBA00, 2}, {0x4400, 2}};
        for (int[] code : codes) {
            Board x = Bench.before("fault of " + code[0], 11, r, code[0]);
            x.run(1).faults(0, code[1], 1).state(0, 2).registers(0, 1, 2, 3, 4, 5, 6, 7, 8, Bench.SP, 0, Bench.AT, 11);
            x.word(32, 0).word(63, 0).turn(0).now(13);
        }
        Board x = Bench.before("call", 11, r, Asm.spDown(25), Asm.call(2));
        x.run(2).faults(0, 6, 1).registers(0, 1, 2, 3, 4, 5, 6, 7, 8, Bench.SP - 100, 0, Bench.AT + 2, 11);
        x.grant(0, 1, -1).open(0, 64);
        for (int k = 0; k < 7; k++) {
            x.word(k, 0);
        }
    }

    /** "PUSH and POP look at all their words first, and with none named they only go on" */
    private static void pushAndPopLookFirst() {
        int[] r = {1, 2, 3, 4, 5, 6, 7, 8};
        for (int named = 1; named <= 9; named++) {
            int list = (1 << named) - 1;
            int down = 32 - named;
            Board x = Bench.before("push " + named, 0, r, Asm.spDown(down), Asm.push(list)).run(2).faults(0, 0, 0);
            x.sp(0, Bench.BLOCK).word(0, 1).word(named - 1, named == 9 ? 0 : named);
            x = Bench.before("push " + named, 0, r, Asm.spDown(down + 1), Asm.push(list)).run(2).faults(0, 4, 1);
            x.sp(0, Bench.BLOCK + 4 * named - 4).pc(0, Bench.AT + 2);
            for (int k = 0; k < named; k++) {
                x.word(k, 0);
            }
            if (named < 9) {
                x = Bench.before("pop " + named, 0, r, Asm.spUp(32 - named), Asm.pop(list)).run(2).faults(0, 0, 0);
                x.sp(0, Bench.BLOCK + 256).register(0, named - 1, 0).register(0, named, named == 8 ? 4352 : named + 1);
                x = Bench.before("pop " + named, 0, r, Asm.spUp(33 - named), Asm.pop(list)).run(2).faults(0, 4, 1);
                x.sp(0, Bench.BLOCK + 260 - 4 * named).registers(0, r);
            }
        }
        int[] far = {Asm.spUp(127), Asm.spDown(127), Asm.spDown(33), Asm.spUp(33)};
        for (int move : far) {
            Board x = Bench.before("none named", 0, r, move, Asm.push(0), Asm.pop(0)).run(3).faults(0, 0, 0);
            x.pc(0, Bench.AT + 6).registers(0, r).sp(0, Bench.SP + 4 * ((move & 128) == 0 ? move & 127 : -(move & 127)));
        }
    }

    /** "let F be SP - 32, less 4 more if that is no multiple of 8" */
    private static void fourMoreBytes() {
        for (int keep = 8; keep <= 16; keep++) {
            boolean odd = keep % 2 == 1;
            int[] code = {Asm.mov(3, 30), Asm.sub(2, 1), Asm.call(77), Asm.mov(4, 1), REST};
            Board x = new Board("KEEP " + keep, Asm.process(0, keep, 0, code)).run(3);
            int frame = keep - (odd ? 9 : 8);
            x.sp(0, BLOCK + 4 * frame).words(frame, -1, 0, -1, 30, 0, 0, 18, (8 << 28) + (1 << 24) + (odd ? 512 : 0));
            x.register(0, 2, -1).flags(0, 8).pc(0, 18).run(1).sp(0, BLOCK + 4 * keep).pc(0, 20).register(0, 2, -1);
        }
    }

    /** "The words F, F + 4, .. F + 28 become r0, r1, r2, r3, 0, LR, PC, ...": 0, whatever was there. */
    private static void word4Becomes0() {
        int[] r = {1, 2, 3, 4, 5, 6, 7, 8};
        int[] code = {Asm.push(0xFF), Asm.spUp(8), Asm.call(4)};
        Bench.before("word 4", 11, r, code).run(2).words(24, 1, 2, 3, 4, 5, 6, 7, 8).run(1)
            .words(24, -1, 2, 3, 4, 0, 0, Bench.AT + 6, 0xB1000000);
    }

    /** "TAKEN from the frame": what input wrote over the frame's words is what the process goes on with. */
    private static void aFrameOnTheWayOut() {
        int[][] rows = {{0, 99}, {1, 98}, {2, 97}, {3, 96}, {4, 95}, {5, 94}, {6, 33}, {6, 32}, {6, 12}, {6, 13},
            {7, 0}, {7, -1}, {7, 512}, {7, 0xF0000000}, {7, 0x0FFFFDFF}, {7, 0x10000200}};
        int nothing = Asm.spUp(0);
        for (int[] row : rows) {
            int[] code = Asm.join(new int[] {nothing, Asm.mov(0, 1), Asm.addrSp(1, 0), Asm.sub(1, 32 - 4 * row[0]),
                Asm.mov(2, 1), Asm.ALLOW}, Asm.ask(Asm.COMMAND, 1, 2, 0), new int[] {nothing, REST});
            Board x = new Board("word " + row[0] + " = " + row[1], Asm.process(1, 16, 0, code));
            x.run(10).sp(0, BLOCK + 32).type(row[1], true).faults(0, 0, 0).state(0, 0);
            int[] words = {0, 2, 0, 0, 0, 0, 32, 0x61000000};
            words[row[0]] = row[1];
            x.words(8, words).registers(0, words[0], words[1], words[2], words[3]);
            x.lr(0, words[5]).pc(0, words[6]).flags(0, words[7] >>> 28);
            x.run(1).registers(0, words[0], words[1], words[2], words[3]).lr(0, words[5]);
            x.pc(0, (words[6] & -2) + 2).flags(0, words[7] >>> 28).sp(0, BLOCK + 64 + ((words[7] & 512) == 0 ? 0 : 4));
        }
    }

    /** fault and faults: the latest one and how many, since the board was booted; a restart forgets none. */
    private static void faultsAreCounted() {
        int[] code = {Asm.mov(0, 1), Asm.ldr(0, 0, 0)};
        Board x = new Board("faults", Asm.process(0, KEEP, 15, code)).faults(0, 0, 0).run(1).faults(0, 0, 0);
        x.run(1).faults(0, 3, 1).burn(7, 0xFFFF, code[1]).run(1).faults(0, 3, 1).run(1).faults(0, 2, 2);
        x.burn(7, Asm.bx(1), 0xFFFF).run(2).faults(0, 5, 3).burn(7, Asm.branch(50), Asm.bx(1)).run(2).faults(0, 5, 3);
        x.run(1).faults(0, 1, 4).burn(6, Asm.spDown(1), code[0]).burn(7, Asm.call(9), Asm.branch(50)).run(2);
        x.faults(0, 6, 5).burn(7, Asm.strSp(0, 127), Asm.call(9)).run(2).faults(0, 4, 6);
        x.restart(0, true).faults(0, 4, 6).stop(0, true).faults(0, 4, 6).boot(1).faults(0, 0, 0);
    }
}
