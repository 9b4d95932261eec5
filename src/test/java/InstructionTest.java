import java.util.Arrays;

/** Every instruction: promise 4's steps, seen through register and word (promises 12 and 13). */
public final class InstructionTest {
    private static final int MIN = Bench.MIN;
    private static final int MAX = Bench.MAX;
    private static final int AT = Bench.AT;
    private static final int BLOCK = Bench.BLOCK;
    private static final int SP = Bench.SP;

    public static void main(String[] args) {
        shiftsByNumber();
        sums();
        bytes();
        bits();
        shiftsByRegister();
        sumsWithCarry();
        flagsAlone();
        branches();
        jumps();
        loadsAndStores();
        stackPointer();
        pushAndPop();
        popFromCode();
        undefined();
        wholeSlices();
        Checks.close("InstructionTest");
    }

    private static Board before(String name, int flags, int[] registers, int... h) {
        return Bench.before(name, flags, registers, h);
    }

    /** h with r0, r1, r2 and flags before: r0 and flags behind it; nothing else changes. */
    private static void r0(String name, int h, int[] r, int flags, int want, int wantFlags) {
        int[] registers = Arrays.copyOf(r, 8);
        for (int k = r.length; k < 8; k++) {
            registers[k] = 100 + k;
        }
        Board x = before(name + " " + Arrays.toString(r) + " flags " + flags, flags, registers, h);
        x.run(1).register(0, 0, want).flags(0, wantFlags).pc(0, AT + 2).sp(0, SP).lr(0, 0);
        for (int k = 1; k < 8; k++) {
            x.register(0, k, registers[k]);
        }
    }

    private static int[] of(int... values) {
        return values;
    }

    private static void shiftsByNumber() {
        r0("lsl 0", Asm.lsl(0, 1, 0), of(9, 5), 2, 5, 2);
        r0("lsl 0", Asm.lsl(0, 1, 0), of(9, MIN), 3, MIN, 11);
        r0("lsl 1", Asm.lsl(0, 1, 1), of(9, MIN + 1), 1, 2, 3);
        r0("lsl 1", Asm.lsl(0, 1, 1), of(9, 0), 2, 0, 4);
        r0("lsl 31", Asm.lsl(0, 1, 31), of(9, 3), 0, MIN, 10);
        r0("lsl 31", Asm.lsl(0, 1, 31), of(9, 1), 2, MIN, 8);
        r0("lsr 32", Asm.lsr(0, 1, 0), of(9, MIN), 1, 0, 7);
        r0("lsr 32", Asm.lsr(0, 1, 0), of(9, MAX), 2, 0, 4);
        r0("lsr 1", Asm.lsr(0, 1, 1), of(9, 3), 0, 1, 2);
        r0("lsr 1", Asm.lsr(0, 1, 1), of(9, -1), 0, MAX, 2);
        r0("lsr 31", Asm.lsr(0, 1, 31), of(9, 0xC0000000), 0, 1, 2);
        r0("asr 32", Asm.asr(0, 1, 0), of(9, MIN), 1, -1, 11);
        r0("asr 32", Asm.asr(0, 1, 0), of(9, MAX), 2, 0, 4);
        r0("asr 1", Asm.asr(0, 1, 1), of(9, -2), 2, -1, 8);
        r0("asr 1", Asm.asr(0, 1, 1), of(9, 5), 0, 2, 2);
        r0("asr 31", Asm.asr(0, 1, 31), of(9, MIN), 2, -1, 8);
    }

    private static void sums() {
        r0("rn + rm", Asm.three(0, 0, 1, 2), of(9, MAX, 1), 6, MIN, 9);
        r0("rn + rm", Asm.three(0, 0, 1, 2), of(9, -1, 1), 9, 0, 6);
        r0("rn + rm", Asm.three(0, 0, 1, 2), of(9, MIN, MIN), 0, 0, 7);
        r0("rn + rm", Asm.three(0, 0, 1, 2), of(9, 2, 3), 11, 5, 0);
        r0("rn - rm", Asm.three(1, 0, 1, 2), of(9, 5, 5), 0, 0, 6);
        r0("rn - rm", Asm.three(1, 0, 1, 2), of(9, 3, 5), 3, -2, 8);
        r0("rn - rm", Asm.three(1, 0, 1, 2), of(9, MIN, 1), 0, MAX, 3);
        r0("rn - rm", Asm.three(1, 0, 1, 2), of(9, MAX, -1), 0, MIN, 9);
        r0("rn - rm", Asm.three(1, 0, 1, 2), of(9, 0, MIN), 0, MIN, 9);
        r0("rn + 7", Asm.three(2, 0, 1, 7), of(9, -7), 0, 0, 6);
        r0("rn + 7", Asm.three(2, 0, 1, 7), of(9, MAX), 0, MIN + 6, 9);
        r0("rn + 0", Asm.three(2, 0, 1, 0), of(9, 4), 11, 4, 0);
        r0("rn - 7", Asm.three(3, 0, 1, 7), of(9, 7), 0, 0, 6);
        r0("rn - 0", Asm.three(3, 0, 1, 0), of(9, 0), 0, 0, 6);
        r0("rn - 0", Asm.three(3, 0, 1, 0), of(9, -1), 0, -1, 10);
        r0("rn - 7", Asm.three(3, 0, 1, 7), of(9, 0), 0, -7, 8);
    }

    private static void bytes() {
        r0("mov 0", Asm.mov(0, 0), of(9), 11, 0, 7);
        r0("mov 255", Asm.mov(0, 255), of(9), 11, 255, 3);
        r0("cmp", Asm.cmp(0, 200), of(200), 0, 200, 6);
        r0("cmp", Asm.cmp(0, 200), of(199), 6, 199, 8);
        r0("cmp", Asm.cmp(0, 200), of(MIN), 0, MIN, 3);
        r0("add 255", Asm.add(0, 255), of(-1), 0, 254, 2);
        r0("add 255", Asm.add(0, 255), of(MAX), 0, MIN + 254, 9);
        r0("add 0", Asm.add(0, 0), of(0), 3, 0, 4);
        r0("sub 255", Asm.sub(0, 255), of(255), 0, 0, 6);
        r0("sub 255", Asm.sub(0, 255), of(0), 3, -255, 8);
        r0("sub 1", Asm.sub(0, 1), of(MIN), 0, MAX, 3);
    }

    private static void bits() {
        r0("and", Asm.alu(0, 0, 1), of(12, 10), 3, 8, 3);
        r0("and", Asm.alu(0, 0, 1), of(1, 2), 3, 0, 7);
        r0("and", Asm.alu(0, 0, 1), of(-1, MIN), 0, MIN, 8);
        r0("xor", Asm.alu(1, 0, 1), of(12, 10), 7, 6, 3);
        r0("xor", Asm.alu(1, 0, 1), of(5, 5), 8, 0, 4);
        r0("or", Asm.alu(12, 0, 1), of(12, 3), 3, 15, 3);
        r0("or", Asm.alu(12, 0, 1), of(0, 0), 3, 0, 7);
        r0("mul", Asm.alu(13, 0, 1), of(65536, 65536), 3, 0, 7);
        r0("mul", Asm.alu(13, 0, 1), of(-3, 5), 2, -15, 10);
        r0("mul", Asm.alu(13, 0, 1), of(65537, 65537), 0, 131073, 0);
        r0("bic", Asm.alu(14, 0, 1), of(15, 6), 3, 9, 3);
        r0("bic", Asm.alu(14, 0, 1), of(7, 7), 0, 0, 4);
        r0("not", Asm.alu(15, 0, 1), of(9, 0), 3, -1, 11);
        r0("not", Asm.alu(15, 0, 1), of(9, -1), 0, 0, 4);
        r0("test", Asm.alu(8, 0, 1), of(12, 3), 3, 12, 7);
        r0("test", Asm.alu(8, 0, 1), of(-1, MIN), 1, -1, 9);
    }

    private static void shiftsByRegister() {
        r0("left 0", Asm.alu(2, 0, 1), of(MIN, 256), 2, MIN, 10);
        r0("left 1", Asm.alu(2, 0, 1), of(MIN + 1, 1), 1, 2, 3);
        r0("left 31", Asm.alu(2, 0, 1), of(3, 31), 0, MIN, 10);
        r0("left 32", Asm.alu(2, 0, 1), of(1, 32), 0, 0, 6);
        r0("left 32", Asm.alu(2, 0, 1), of(2, 32), 2, 0, 4);
        r0("left 33", Asm.alu(2, 0, 1), of(-1, 33), 2, 0, 4);
        r0("left 64", Asm.alu(2, 0, 1), of(-1, 64), 2, 0, 4);
        r0("left 255", Asm.alu(2, 0, 1), of(-1, -1), 2, 0, 4);
        r0("left 257", Asm.alu(2, 0, 1), of(1, 257), 2, 2, 0);
        r0("right 0", Asm.alu(3, 0, 1), of(5, 0), 3, 5, 3);
        r0("right 1", Asm.alu(3, 0, 1), of(1, 1), 0, 0, 6);
        r0("right 31", Asm.alu(3, 0, 1), of(MIN, 31), 2, 1, 0);
        r0("right 32", Asm.alu(3, 0, 1), of(MIN, 32), 0, 0, 6);
        r0("right 33", Asm.alu(3, 0, 1), of(-1, 33), 2, 0, 4);
        r0("right 255", Asm.alu(3, 0, 1), of(-1, 255), 2, 0, 4);
        r0("sign 0", Asm.alu(4, 0, 1), of(-1, 0), 2, -1, 10);
        r0("sign 31", Asm.alu(4, 0, 1), of(MIN, 31), 2, -1, 8);
        r0("sign 32", Asm.alu(4, 0, 1), of(MIN, 32), 0, -1, 10);
        r0("sign 33", Asm.alu(4, 0, 1), of(MIN, 33), 0, -1, 10);
        r0("sign 255", Asm.alu(4, 0, 1), of(MAX, 255), 2, 0, 4);
        r0("sign 1", Asm.alu(4, 0, 1), of(-3, 1), 0, -2, 10);
        r0("rotate 0", Asm.alu(7, 0, 1), of(MIN, 256), 1, MIN, 9);
        r0("rotate 0", Asm.alu(7, 0, 1), of(1, 0), 2, 1, 2);
        r0("rotate 1", Asm.alu(7, 0, 1), of(1, 1), 0, MIN, 10);
        r0("rotate 4", Asm.alu(7, 0, 1), of(0x1F, 4), 0, 0xF0000001, 10);
        r0("rotate 4", Asm.alu(7, 0, 1), of(MIN + 16, 4), 2, 0x08000001, 0);
        r0("rotate 31", Asm.alu(7, 0, 1), of(MIN + 1, 31), 2, 3, 0);
        r0("rotate 1", Asm.alu(7, 0, 1), of(0, 1), 2, 0, 4);
        r0("rotate 32", Asm.alu(7, 0, 1), of(MIN, 32), 0, MIN, 10);
        r0("rotate 32", Asm.alu(7, 0, 1), of(1, 32), 2, 1, 0);
        r0("rotate 33", Asm.alu(7, 0, 1), of(2, 33), 2, 1, 0);
        r0("rotate 255", Asm.alu(7, 0, 1), of(3, 255), 2, 6, 0);
    }

    private static void sumsWithCarry() {
        r0("adc", Asm.alu(5, 0, 1), of(1, 1), 2, 3, 0);
        r0("adc", Asm.alu(5, 0, 1), of(1, 1), 0, 2, 0);
        r0("adc", Asm.alu(5, 0, 1), of(-1, 0), 2, 0, 6);
        r0("adc", Asm.alu(5, 0, 1), of(MAX, 0), 2, MIN, 9);
        r0("adc", Asm.alu(5, 0, 1), of(-1, -1), 2, -1, 10);
        r0("sbc", Asm.alu(6, 0, 1), of(5, 3), 2, 2, 2);
        r0("sbc", Asm.alu(6, 0, 1), of(5, 3), 0, 1, 2);
        r0("sbc", Asm.alu(6, 0, 1), of(0, 0), 0, -1, 8);
        r0("sbc", Asm.alu(6, 0, 1), of(3, 3), 2, 0, 6);
        r0("sbc", Asm.alu(6, 0, 1), of(MIN, 0), 0, MAX, 3);
        r0("neg", Asm.alu(9, 0, 1), of(9, 5), 3, -5, 8);
        r0("neg", Asm.alu(9, 0, 1), of(9, 0), 0, 0, 6);
        r0("neg", Asm.alu(9, 0, 1), of(9, MIN), 0, MIN, 9);
    }

    private static void flagsAlone() {
        r0("cmp", Asm.alu(10, 0, 1), of(5, 5), 0, 5, 6);
        r0("cmp", Asm.alu(10, 0, 1), of(4, 5), 3, 4, 8);
        r0("cmp", Asm.alu(10, 0, 1), of(MIN, 1), 0, MIN, 3);
        r0("cmn", Asm.alu(11, 0, 1), of(1, -1), 0, 1, 6);
        r0("cmn", Asm.alu(11, 0, 1), of(MAX, 1), 0, MAX, 9);
    }

    private static boolean holds(int c, int flags) {
        boolean n = (flags & 8) != 0;
        boolean z = (flags & 4) != 0;
        boolean carry = (flags & 2) != 0;
        boolean v = (flags & 1) != 0;
        boolean[] even = {z, carry, n, v, carry && !z, n == v, !z && n == v};
        return even[c / 2] == (c % 2 == 0);
    }

    private static void branches() {
        int[] none = new int[8];
        for (int flags = 0; flags < 12; flags++) {
            for (int c = 0; c < 14; c++) {
                Board x = before("branch " + c + " flags " + flags, flags, none, Asm.branchIf(c, 5));
                x.run(1).pc(0, holds(c, flags) ? AT + 14 : AT + 2).flags(0, flags);
            }
        }
        int[] fars = {0, 1, 127, -1, -2, -128};
        for (int far : fars) {
            before("branch by " + far, 4, none, Asm.branchIf(0, far)).run(1).pc(0, AT + 4 + 2 * far).flags(0, 4);
        }
        int[] farther = {0, 1, 1023, -1, -2, -1024};
        for (int far : farther) {
            before("far by " + far, 8, none, Asm.branch(far)).run(1).pc(0, AT + 4 + 2 * far).flags(0, 8);
        }
        Board x = before("out of the code", 0, none, Asm.branch(-1024)).run(1).pc(0, -2008).state(0, 0);
        x.run(1).faults(0, 1, 1).state(0, 2).pc(0, -2008);
    }

    private static void jumps() {
        int[] r = {0, 0, 0, AT + 4 + 1, 0, 0, 0, MIN + 1};
        before("bx", 11, r, Asm.bx(3)).run(1).pc(0, AT + 4).lr(0, 0).flags(0, 11);
        before("blx", 0, r, Asm.blx(3)).run(1).pc(0, AT + 4).lr(0, AT + 3);
        before("bx afar", 0, r, Asm.bx(7)).run(1).pc(0, MIN).state(0, 0).run(1).faults(0, 1, 1);
        before("there and back", 0, r, Asm.blx(3), Asm.rest(), Asm.bx(14)).run(2).pc(0, AT + 2).lr(0, AT + 3);
        Board x = before("blx lr", 0, r, Asm.blx(3), Asm.rest(), Asm.blx(14));
        x.run(2).pc(0, AT + 2).lr(0, AT + 7);
        before("bx even", 0, r, Asm.bx(0)).run(1).faults(0, 5, 1).pc(0, AT).lr(0, 0);
        before("blx even", 0, r, Asm.blx(1)).run(1).faults(0, 5, 1).pc(0, AT).lr(0, 0);
        before("bx lr even", 0, r, Asm.bx(14)).run(1).faults(0, 5, 1).pc(0, AT);
    }

    private static void loadsAndStores() {
        int[] r = {BLOCK, 77, BLOCK + 4, SP - 4, 3, BLOCK - 124, 0x12345678, -1};
        before("str", 11, r, Asm.str(1, 0, 0)).run(1).word(0, 77).flags(0, 11).pc(0, AT + 2);
        before("str 31", 0, r, Asm.str(6, 2, 31)).run(1).word(32, 0x12345678);
        before("str and ldr", 0, r, Asm.str(6, 5, 31), Asm.ldr(4, 0, 0)).run(2).word(0, 0x12345678)
            .register(0, 4, 0x12345678).flags(0, 0);
        before("ldr 1", 0, r, Asm.str(6, 2, 0), Asm.ldr(4, 0, 1)).run(2).register(0, 4, 0x12345678);
        before("str sp", 7, r, Asm.strSp(6, 1), Asm.ldrSp(0, 1)).run(2).word(33, 0x12345678)
            .register(0, 0, 0x12345678).flags(0, 7);
        before("address sp", 7, r, Asm.addrSp(2, 255), Asm.addrSp(3, 0)).run(2).register(0, 2, SP + 1020)
            .register(0, 3, SP).flags(0, 7);
        before("last open word", 0, r, Asm.strSp(1, 31)).run(1).word(63, 77).faults(0, 0, 0);
        before("behind the block", 0, r, Asm.strSp(1, 32)).run(1).faults(0, 4, 1);
        before("before the block", 0, r, Asm.ldr(1, 5, 30)).run(1).faults(0, 4, 1).register(0, 1, 77);
        before("odd address", 0, r, Asm.ldr(1, 4, 0)).run(1).faults(0, 3, 1);
        int[] code = {0, 3, 8, 0, 4, 12, 0, 0};
        before("ldr code", 0, code, Asm.ldr(4, 0, 0)).run(1).register(0, 4, Asm.process(0, 8, 0)[0] | 40 << 16);
        before("ldr code behind", 0, code, Asm.ldr(6, 2, 0)).run(1).register(0, 6, 6).pc(0, AT + 2);
        before("str code", 0, code, Asm.str(4, 5, 0)).run(1).faults(0, 4, 1);
        // PC + 4 loses its two lowest bits: both alignments find the same word.
        Board x = before("literal", 9, r, Asm.literal(1, 0), Asm.literal(2, 0), 0x1111, 0x2222);
        x.run(2).register(0, 1, 0x2222 << 16 | 0x1111).register(0, 2, 0x2222 << 16 | 0x1111).flags(0, 9);
        before("literal outside", 0, r, Asm.literal(1, 255)).run(1).faults(0, 4, 1).register(0, 1, 77);
    }

    private static void stackPointer() {
        int[] none = new int[8];
        before("sp up", 5, none, Asm.spUp(127)).run(1).sp(0, SP + 508).flags(0, 5).pc(0, AT + 2);
        before("sp down", 5, none, Asm.spDown(127)).run(1).sp(0, SP - 508).flags(0, 5);
        before("sp stays", 0, none, Asm.spDown(0), Asm.spUp(0)).run(2).sp(0, SP);
    }

    private static void pushAndPop() {
        int[] r = {10, 11, 12, 13, 14, 15, 16, AT + 5};
        Board x = before("push all", 6, r, Asm.blx(7), Asm.rest(), Asm.push(511)).run(2);
        x.words(23, 10, 11, 12, 13, 14, 15, 16, AT + 5, AT + 3).sp(0, SP - 36).flags(0, 6).pc(0, AT + 6);
        x = before("push some", 0, r, Asm.push(1 << 2 | 1 << 5)).run(1);
        x.words(29, 0, 12, 15, 0).sp(0, SP - 8);
        x = before("push none", 0, r, Asm.push(0), Asm.pop(0)).run(2).sp(0, SP).pc(0, AT + 4);
        x = before("pop some", 9, r, Asm.push(15), Asm.pop(0xF0)).run(2);
        x.registers(0, 10, 11, 12, 13, 10, 11, 12, 13).sp(0, SP).flags(0, 9).pc(0, AT + 4);
        x = before("push without LR", 0, r, Asm.blx(7), Asm.rest(), Asm.push(1 << 2 | 1 << 5)).run(2);
        x.lr(0, AT + 3).words(29, 0, 12, 15, 0).sp(0, SP - 8);
        x = before("push LR alone", 0, r, Asm.blx(7), Asm.rest(), Asm.push(256)).run(2);
        x.words(31, AT + 3, 0).sp(0, SP - 4);
        x = before("pop pc", 0, r, Asm.push(1 << 6 | 1 << 7), Asm.pop(1 | 256)).run(2);
        x.register(0, 0, 16).sp(0, SP).pc(0, AT + 4);
        x = before("pop pc alone", 0, r, Asm.push(2), Asm.pop(256)).run(2).sp(0, SP).pc(0, 10);
        x = before("pop all", 0, r, Asm.push(255), Asm.mov(0, 0), Asm.mov(6, 0), Asm.pop(255)).run(4);
        x.registers(0, 10, 11, 12, 13, 14, 15, 16, AT + 5).sp(0, SP);
        x = before("pop to the end", 0, r, Asm.strSp(7, 31), Asm.spUp(24), Asm.pop(255)).run(3);
        x.faults(0, 0, 0).registers(0, 0, 0, 0, 0, 0, 0, 0, AT + 5).sp(0, SP + 128);
        x = before("pop behind the end", 0, r, Asm.spUp(25), Asm.pop(255)).run(2);
        x.faults(0, 4, 1).registers(0, 10, 11, 12, 13, 14, 15, 16, AT + 5).sp(0, SP + 100);
        x = before("push one outside", 0, r, Asm.spDown(32), Asm.push(1)).run(2).faults(0, 4, 1);
        x.sp(0, BLOCK);
        x = before("pop one outside", 0, r, Asm.spUp(32), Asm.pop(1)).run(2).faults(0, 4, 1);
        x.sp(0, SP + 128);
        x = before("pop pc even", 0, r, Asm.push(5), Asm.pop(4 | 256)).run(2);
        x.faults(0, 5, 1).register(0, 2, 12).sp(0, SP - 8).pc(0, AT + 2);
        x = before("pop pc outside", 0, r, Asm.spUp(31), Asm.pop(4 | 256)).run(2);
        x.faults(0, 4, 1).register(0, 2, 12).sp(0, SP + 124).pc(0, AT + 2);
        x = before("push outside", 0, r, Asm.spDown(31), Asm.push(3)).run(2);
        x.faults(0, 4, 1).word(0, 0).sp(0, SP - 124).pc(0, AT + 2);
        x = before("push to the end", 0, r, Asm.spDown(30), Asm.push(3)).run(2).words(0, 10, 11, 0).sp(0, BLOCK);
        x = before("push none outside", 0, r, Asm.spDown(127), Asm.push(0), Asm.pop(0)).run(3);
        x.faults(0, 0, 0).sp(0, SP - 508).pc(0, AT + 6);
    }

    /** Words of the code may be popped, too: SP goes down from the block to the flash. */
    private static void popFromCode() {
        int[] code = new int[14];
        Arrays.fill(code, 0, 8, Asm.spDown(127));
        code[8] = Asm.spDown(16);
        code[9] = Asm.pop(3);
        Board x = new Board("pop code", Asm.process(0, 8, 0, code));
        x.run(9).sp(0, 0).run(1).registers(0, Asm.MAGIC | 20 << 16, 8 << 16).faults(0, 6, 1).sp(0, 8);
    }

    private static boolean isUndefined(int h) {
        int op = h >> 11;
        int r = h >> 3 & 15;
        if (op == 8 && h >= 0x4400) {
            return h < 0x4700 || (h & 7) != 0 || r > 7 && r != 14;
        }
        if (op == 22) {
            return h > 0xB0FF && h < 0xB400 || h > 0xB5FF;
        }
        if (op == 23) {
            return h < 0xBC00 || h > 0xBDFF;
        }
        boolean none = op == 10 || op == 11 || op >= 14 && op <= 17 || op == 20 || op == 24 || op == 25 || op > 28;
        return none || h >> 8 == 0xDE;
    }

    private static void undefined() {
        GrantKernel x = null;
        for (int h = 0; h < 65536; h++) {
            if (h % 100 == 0) {
                x = new GrantKernel();
                int[] image = Asm.process(0, 8, 0, 0);
                for (int k = 0; k < image.length; k++) {
                    x.burn(k, image[k]);
                }
            }
            x.burn(6, h);
            x.boot();
            x.run(1);
            if (x.fault(0) == 2 != isUndefined(h)) {
                Checks.due("undefined: fault(0) after " + h, x.fault(0), isUndefined(h) ? 2 : 0);
            }
        }
        Checks.due("halfwords that are undefined", isUndefined(0xDE00), true);
    }

    /** Flags and registers come through the end of a slice. */
    private static void wholeSlices() {
        int[] r = {1, 2, 3, 4, 5, 6, 7, 8};
        Board x = before("slice", 11, r, Asm.branch(-1));
        x.run(7).sp(0, SP).run(1).sp(0, SP - 32).flags(0, 11).registers(0, 1, 2, 3, 4, 5, 6, 7, 8);
        x.run(45).sp(0, SP).flags(0, 11).registers(0, 1, 2, 3, 4, 5, 6, 7, 8);
    }
}
