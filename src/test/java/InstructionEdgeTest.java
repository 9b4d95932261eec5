import java.math.BigInteger;
import java.util.Arrays;

/**
 * The edges of the instructions, a sentence each, on both sides (promise 4, seen through 12 and 13).
 * What is due is reckoned with BigIntegers and with words written out bit by bit.
 */
public final class InstructionEdgeTest {
    private static final int MIN = Bench.MIN;
    private static final int MAX = Bench.MAX;
    private static final int AT = Bench.AT;
    private static final int SP = Bench.SP;
    private static final int[] EDGES = {0, 1, 2, -1, -2, MIN, MIN + 1, MAX, MAX - 1, 0x55555555};
    private static final int N = 8;
    private static final int Z = 4;
    private static final int C = 2;
    private static final int V = 1;

    public static void main(String[] args) {
        shiftsByNumber();
        shiftsByRegister();
        rotates();
        sumsOfRegisters();
        sumsOfSmallNumbers();
        sumsOfBytes();
        bits();
        registersOfThree();
        registersOfTwo();
        registersOfBytes();
        registersOfLoads();
        conditions();
        distances();
        jumps();
        literals();
        addressesWrap();
        theStackPointer();
        everyPush();
        everyPop();
        undefinedNeighbours();
        Checks.close("InstructionEdgeTest");
    }

    /** h with registers and flags before, and those behind it; all others stay. */
    private static void does(String name, int h, int[] before, int flags, int[] want, int wantFlags) {
        Board x = Bench.before(name + " of " + Arrays.toString(before) + " flags " + flags, flags, before, h);
        x.run(1).registers(0, want).sp(0, SP).lr(0, 0).pc(0, AT + 2).flags(0, wantFlags).faults(0, 0, 0);
    }

    private static int[] of(int... first) {
        int[] all = {200, 201, 202, 203, 204, 205, 206, 207};
        System.arraycopy(first, 0, all, 0, first.length);
        return all;
    }

    private static int[] put(int[] registers, int k, int value) {
        int[] other = registers.clone();
        other[k] = value;
        return other;
    }

    private static int signs(int result) {
        return result < 0 ? N : result == 0 ? Z : 0;
    }

    private static String bitsOf(int x) {
        String bare = Integer.toBinaryString(x);
        return "0".repeat(32 - bare.length()) + bare;
    }

    private static int fromBits(String bits) {
        return Integer.parseUnsignedInt(bits, 2);
    }

    /** {result, C or -1 if it stays}: the word among as many bits beside it as a shift can reach. */
    private static int[] shifted(int kind, int x, int count) {
        if (count == 0) {
            return new int[] {x, -1};
        }
        String word = bitsOf(x);
        String fill = (kind == 2 ? word.substring(0, 1) : "0").repeat(300);
        if (kind == 0) {
            String wide = word + fill;
            return new int[] {fromBits(wide.substring(count, count + 32)), wide.charAt(count - 1) - '0'};
        }
        String wide = fill + word;
        int end = wide.length() - count;
        return new int[] {fromBits(wide.substring(end - 32, end)), wide.charAt(end) - '0'};
    }

    private static int flagsAfter(int flags, int[] row) {
        int carry = row[1] < 0 ? flags & C : C * row[1];
        return signs(row[0]) + carry + (flags & V);
    }

    /** "rd = rn << i ... if i > 0, C = the last bit shifted out"; "in both an i of 0 counts as 32" */
    private static void shiftsByNumber() {
        int[] values = {0, 1, -1, MIN, MAX, 0x40000000, 0xC0000001, 0x55555555};
        for (int kind = 0; kind < 3; kind++) {
            for (int i = 0; i < 32; i++) {
                for (int x : values) {
                    int[] row = shifted(kind, x, kind > 0 && i == 0 ? 32 : i);
                    for (int flags = 0; flags < 4; flags += 3) {
                        int[] r = of(9, x);
                        does("shift " + kind + " by " + i, kind << 11 | i << 6 | 1 << 3, r, flags, put(r, 0, row[0]),
                            flagsAfter(flags, row));
                    }
                }
            }
        }
    }

    /** "x shifted by y & 255 ...: by 0, C stays, by 1 or more, C = the last bit shifted out" */
    private static void shiftsByRegister() {
        int[] values = {0, 1, -1, MIN, MAX, 0xC0000001};
        int[] counts = {0, 1, 2, 31, 32, 33, 34, 63, 64, 65, 127, 128, 129, 254, 255, 256, 257, 288, -1, -256, -255, MIN, MAX};
        for (int kind = 0; kind < 3; kind++) {
            for (int count : counts) {
                for (int x : values) {
                    int[] row = shifted(kind, x, Math.floorMod(count, 256));
                    for (int flags = 0; flags < 4; flags += 3) {
                        int[] r = of(x, count);
                        does("shift " + kind, Asm.alu(2 + kind, 0, 1), r, flags, put(r, 0, row[0]), flagsAfter(flags, row));
                    }
                }
            }
        }
    }

    /** "x rotated right by y & 255, NZ; by 0, C stays, else C = the highest bit of the result" */
    private static void rotates() {
        int[] values = {0, 1, -1, MIN, MAX, 0xC0000001, 0x80000001};
        int[] counts = {0, 1, 2, 31, 32, 33, 63, 64, 65, 128, 224, 254, 255, 256, 257, -1, -256, MIN};
        for (int count : counts) {
            for (int x : values) {
                int places = Math.floorMod(count, 256);
                String twice = bitsOf(x) + bitsOf(x);
                int result = fromBits(twice.substring(32 - places % 32, 64 - places % 32));
                for (int flags = 0; flags < 4; flags += 3) {
                    int[] r = of(x, count);
                    int[] row = {result, places == 0 ? -1 : result < 0 ? 1 : 0};
                    does("rotate", Asm.alu(7, 0, 1), r, flags, put(r, 0, result), flagsAfter(flags, row));
                }
            }
        }
    }

    private static BigInteger unsigned(int x) {
        return BigInteger.valueOf(Integer.toUnsignedLong(x));
    }

    /** "C = whether the sum of the three, x and y taken without sign, is 2^32 or more, V = ... no int" */
    private static int flagsOfSum(int x, int y, int carry) {
        BigInteger plain = unsigned(x).add(unsigned(y)).add(BigInteger.valueOf(carry));
        BigInteger signed = BigInteger.valueOf(x).add(BigInteger.valueOf(y)).add(BigInteger.valueOf(carry));
        boolean isInt = signed.bitLength() < 32;
        return signs(plain.intValue()) + (plain.bitLength() > 32 ? C : 0) + (isInt ? 0 : V);
    }

    private static void sumsOfRegisters() {
        for (int x : EDGES) {
            for (int y : EDGES) {
                int[] r = of(9, x, y);
                does("rn + rm", Asm.three(0, 0, 1, 2), r, 11, put(r, 0, x + y), flagsOfSum(x, y, 0));
                does("rn - rm", Asm.three(1, 0, 1, 2), r, 0, put(r, 0, x - y), flagsOfSum(x, -1 - y, 1));
                r = of(x, y);
                does("compare", Asm.alu(10, 0, 1), r, 11, r, flagsOfSum(x, -1 - y, 1));
                does("compare with the sum", Asm.alu(11, 0, 1), r, 0, r, flagsOfSum(x, y, 0));
                for (int flags = 1; flags < 4; flags += 2) {
                    int carry = flags / 2;
                    does("with C", Asm.alu(5, 0, 1), r, flags, put(r, 0, x + y + carry), flagsOfSum(x, y, carry));
                    does("less, with C", Asm.alu(6, 0, 1), r, flags, put(r, 0, x - y - 1 + carry),
                        flagsOfSum(x, -1 - y, carry));
                }
            }
            int[] r = of(9, x);
            does("0 - y", Asm.alu(9, 0, 1), r, 0, put(r, 0, -x), flagsOfSum(0, -1 - x, 1));
            does("0 - y", Asm.alu(9, 0, 0), put(r, 0, x), 11, put(r, 0, -x), flagsOfSum(0, -1 - x, 1));
        }
    }

    /** "rn + m, rn - m": m is 0 .. 7 */
    private static void sumsOfSmallNumbers() {
        int[] values = {0, 1, 7, -1, -7, -8, MIN, MIN + 6, MIN + 7, MAX, MAX - 6, MAX - 7};
        for (int m = 0; m < 8; m++) {
            for (int x : values) {
                int[] r = of(9, x);
                does("rn + " + m, Asm.three(2, 0, 1, m), r, 0, put(r, 0, x + m), flagsOfSum(x, m, 0));
                does("rn - " + m, Asm.three(3, 0, 1, m), r, 11, put(r, 0, x - m), flagsOfSum(x, -1 - m, 1));
            }
        }
    }

    /** "rt = b", "rt - b, flags alone", "rt = rt + b", "rt = rt - b": b is 0 .. 255 */
    private static void sumsOfBytes() {
        int[] bytes = {0, 1, 127, 128, 254, 255};
        int[] values = {0, 1, 127, 128, 254, 255, 256, -1, -255, -256, MIN, MIN + 254, MIN + 255, MAX, MAX - 254, MAX - 255};
        for (int b : bytes) {
            for (int x : values) {
                int[] r = of(x);
                does("= " + b, Asm.mov(0, b), r, 11, put(r, 0, b), (b == 0 ? Z : 0) + C + V);
                does("= " + b, Asm.mov(0, b), r, 8, put(r, 0, b), b == 0 ? Z : 0);
                does("compare " + b, Asm.cmp(0, b), r, 0, r, flagsOfSum(x, -1 - b, 1));
                does("+ " + b, Asm.add(0, b), r, 11, put(r, 0, x + b), flagsOfSum(x, b, 0));
                does("- " + b, Asm.sub(0, b), r, 3, put(r, 0, x - b), flagsOfSum(x, -1 - b, 1));
            }
        }
    }

    /** Those with NZ alone: C and V stay, whatever the result. */
    private static void bits() {
        int[] kinds = {0, 1, 8, 12, 13, 14, 15};
        for (int kind : kinds) {
            for (int x : EDGES) {
                for (int y : EDGES) {
                    String a = bitsOf(x);
                    String b = bitsOf(y);
                    StringBuilder bits = new StringBuilder();
                    for (int k = 0; k < 32; k++) {
                        bits.append(bit(kind, a.charAt(k) == '1', b.charAt(k) == '1') ? '1' : '0');
                    }
                    int result = kind == 13 ? unsigned(x).multiply(unsigned(y)).intValue() : fromBits(bits.toString());
                    int[] r = of(x, y);
                    int flags = (x ^ y) % 2 == 0 ? 11 : 0;
                    does("bits " + kind, Asm.alu(kind, 0, 1), r, flags, kind == 8 ? r : put(r, 0, result),
                        signs(result) + (flags & 3));
                }
            }
        }
    }

    private static boolean bit(int kind, boolean a, boolean b) {
        switch (kind) {
            case 1:
                return a != b;
            case 12:
                return a || b;
            case 14:
                return a && !b;
            case 15:
                return !b;
            default:
                return a && b;
        }
    }

    /** d, n and m are any registers, the same ones too. */
    private static void registersOfThree() {
        int[] r = {3, -5, 700, 1 << 20, MIN, MAX, 77, -1};
        for (int code = 0; code < 512; code++) {
            int d = code & 7;
            int n = code >> 3 & 7;
            int m = code >> 6;
            does("sum", Asm.three(0, d, n, m), r, 0, put(r, d, r[n] + r[m]), flagsOfSum(r[n], r[m], 0));
            does("difference", Asm.three(1, d, n, m), r, 0, put(r, d, r[n] - r[m]), flagsOfSum(r[n], -1 - r[m], 1));
        }
    }

    private static void registersOfTwo() {
        int[] r = {3, -5, 700, 1 << 20, MIN, MAX, 77, -1};
        for (int code = 0; code < 64; code++) {
            int d = code & 7;
            int n = code >> 3;
            does("xor", Asm.alu(1, d, n), r, 0, put(r, d, r[d] ^ r[n]), signs(r[d] ^ r[n]));
            does("test", Asm.alu(8, d, n), r, 0, r, signs(r[d] & r[n]));
            does("compare", Asm.alu(10, d, n), r, 0, r, flagsOfSum(r[d], -1 - r[n], 1));
            does("not", Asm.alu(15, d, n), r, 0, put(r, d, -1 - r[n]), signs(-1 - r[n]));
            does("left 1", Asm.lsl(d, n, 1), r, 0, put(r, d, r[n] + r[n]), signs(r[n] + r[n]) + (r[n] < 0 ? C : 0));
            does("right 32", Asm.lsr(d, n, 0), r, 0, put(r, d, 0), Z + (r[n] < 0 ? C : 0));
            does("plus 1", Asm.three(2, d, n, 1), r, 0, put(r, d, r[n] + 1), flagsOfSum(r[n], 1, 0));
        }
    }

    private static void registersOfBytes() {
        int[] r = {3, -5, 700, 1 << 20, MIN, MAX, 77, -1};
        for (int t = 0; t < 8; t++) {
            does("= 9", Asm.mov(t, 9), r, 0, put(r, t, 9), 0);
            does("+ 9", Asm.add(t, 9), r, 0, put(r, t, r[t] + 9), flagsOfSum(r[t], 9, 0));
            does("- 9", Asm.sub(t, 9), r, 0, put(r, t, r[t] - 9), flagsOfSum(r[t], -10, 1));
            does("compare 9", Asm.cmp(t, 9), r, 0, r, flagsOfSum(r[t], -10, 1));
            does("SP + 36", Asm.addrSp(t, 9), r, 11, put(r, t, SP + 36), 11);
            does("SP + 0", Asm.addrSp(t, 0), r, 11, put(r, t, SP), 11);
            does("SP + 1020", Asm.addrSp(t, 255), r, 11, put(r, t, SP + 1020), 11);
        }
    }

    /** Loads and stores with every register, and with the least and the largest i and b that are open. */
    private static void registersOfLoads() {
        int[] r = new int[8];
        for (int k = 0; k < 8; k++) {
            r[k] = SP + 4 * k - 124 + 64;
        }
        for (int code = 0; code < 64; code++) {
            int d = code & 7;
            int n = code >> 3;
            for (int i = 0; i < 32; i += 31) {
                int k = (r[n] + 4 * i - Bench.BLOCK) / 4;
                Board x = Bench.before("store " + d + n + i, 11, r, Asm.str(d, n, i), Asm.mov(d, 1)).run(1);
                x.word(k, r[d]).registers(0, r).flags(0, 11);
                x = Bench.before("load " + d + n + i, 11, r, Asm.str(5, n, i), Asm.ldr(d, n, i)).run(2);
                x.registers(0, put(r, d, r[5])).flags(0, 11);
            }
        }
        for (int t = 0; t < 8; t++) {
            for (int b = 0; b < 32; b += 31) {
                Board x = Bench.before("SP " + t + b, 11, r, Asm.strSp(t, b), Asm.ldrSp(7 - t, b)).run(2);
                x.word(32 + b, r[t]).registers(0, put(r, 7 - t, r[t])).flags(0, 11).sp(0, SP);
            }
        }
    }

    /** All conditions with all flags, those too that no sum sets (N and Z): input writes them into the frame. */
    private static void conditions() {
        for (int flags = 0; flags < 16; flags++) {
            for (int c = 0; c < 14; c++) {
                int[] code = Asm.join(new int[] {Asm.spUp(0), Asm.mov(0, 1), Asm.addrSp(1, 0), Asm.sub(1, 4),
                    Asm.mov(2, 1), Asm.ALLOW}, Asm.ask(Asm.COMMAND, 1, 2, 0), new int[] {Asm.branchIf(c, 3), Asm.rest()});
                Board x = new Board("condition " + c + " flags " + flags, Asm.process(1, 16, 0, code)).run(10);
                x.type((flags << 28) + (1 << 24), true).flags(0, flags).pc(0, 32);
                x.run(1).flags(0, flags).pc(0, holds(c, flags) ? 42 : 34).sp(0, 4160);
            }
        }
    }

    private static boolean holds(int c, int flags) {
        String[] even = {"Z", "C", "N", "V", "C and not Z", "N = V", "not Z and N = V"};
        boolean n = flags / 8 == 1;
        boolean z = flags / 4 % 2 == 1;
        boolean carry = flags / 2 % 2 == 1;
        boolean v = flags % 2 == 1;
        boolean is;
        switch (even[c / 2]) {
            case "Z":
                is = z;
                break;
            case "C":
                is = carry;
                break;
            case "N":
                is = n;
                break;
            case "V":
                is = v;
                break;
            case "C and not Z":
                is = carry && !z;
                break;
            case "N = V":
                is = n == v;
                break;
            default:
                is = !z && n == v;
                break;
        }
        return is == (c % 2 == 0);
    }

    /** "(b, less 256 if b > 127)" and "(h & 2047, less 2048 if that is more than 1023)" */
    private static void distances() {
        int[][] near = {{0, 0}, {1, 1}, {127, 127}, {128, -128}, {129, -127}, {254, -2}, {255, -1}};
        for (int[] row : near) {
            Board x = Bench.before("b " + row[0], 0, new int[8], Asm.branchIf(1, row[0])).run(1);
            x.pc(0, AT + 4 + 2 * row[1]).flags(0, 0).state(0, 0).faults(0, 0, 0);
            Bench.before("b " + row[0], 0, new int[8], Asm.branchIf(0, row[0])).run(1).pc(0, AT + 2);
        }
        int[][] far = {{0, 0}, {1, 1}, {1022, 1022}, {1023, 1023}, {1024, -1024}, {1025, -1023}, {2046, -2}, {2047, -1}};
        for (int[] row : far) {
            Board x = Bench.before("far " + row[0], 11, new int[8], 28 << 11 | row[0]).run(1);
            x.pc(0, AT + 4 + 2 * row[1]).flags(0, 11).state(0, 0).faults(0, 0, 0);
        }
    }

    /** "one of 0 .. 7, or 14 for LR"; "with 143 then LR = the address behind the instruction, and 1 more" */
    private static void jumps() {
        int[] r = {AT + 5, AT + 7, AT + 9, 1, 3, -1, MAX, MIN + 1};
        for (int k = 0; k < 16; k++) {
            boolean is = k < 8 || k == 14;
            for (int kind = 142; kind < 144; kind++) {
                Board x = Bench.before("jump " + kind + " by " + k, 11, r, Asm.blx(0), 0, kind << 7 | k << 3).run(1);
                x.pc(0, AT + 4).lr(0, AT + 3).run(1).faults(0, is ? 0 : 2, is ? 0 : 1).registers(0, r).flags(0, 11);
                x.pc(0, !is ? AT + 4 : k == 14 ? AT + 2 : r[k] - 1).lr(0, is && kind == 143 ? AT + 7 : AT + 3).sp(0, SP);
            }
        }
    }

    /** "the word at (PC + 4, without its two lowest bits) + 4b" */
    private static void literals() {
        for (int place = 0; place < 4; place++) {
            for (int b = 0; b < 3; b++) {
                int[] code = new int[14];
                Arrays.fill(code, Asm.spUp(0));
                code[place] = Asm.literal(3, b);
                for (int k = 4; k < 14; k++) {
                    code[k] = 100 + k;
                }
                int k = (12 + 2 * place + 4 & -4) / 2 - 6 + 2 * b;
                Board x = new Board("literal " + place + ", " + b, Asm.process(0, 8, 0, code)).run(place + 1);
                x.register(0, 3, code[k] | code[k + 1] << 16).pc(0, 14 + 2 * place).flags(0, 0);
            }
        }
    }

    /** "Numbers are ints that wrap": rn + 4i goes over the highest address and comes to the code at 0. */
    private static void addressesWrap() {
        int header = Asm.MAGIC | 40 << 16;
        int[][] rows = {{-4, 1, 0}, {-124, 31, 0}, {-4, 0, 4}, {-8, 1, 4}, {MAX - 3, 1, 4}, {MAX - 3, 0, 4}, {-3, 1, 3},
            {MIN, 0, 4}, {MIN, 31, 4}};
        for (int[] row : rows) {
            int[] r = {row[0], 9};
            Board x = Bench.before("wrap " + row[0], 0, r, Asm.ldr(1, 0, row[1])).run(1);
            x.faults(0, row[2], row[2] == 0 ? 0 : 1).register(0, 1, row[2] == 0 ? header : 9);
            x = Bench.before("wrap " + row[0], 0, r, Asm.str(1, 0, row[1])).run(1).faults(0, row[2] == 3 ? 3 : 4, 1);
        }
    }

    /** "SP = SP + 4 * (h & 127), or if h & 128, SP - that" */
    private static void theStackPointer() {
        int[] words = {0, 1, 2, 126, 127};
        for (int k : words) {
            Bench.before("up " + k, 11, new int[8], Asm.spUp(k)).run(1).sp(0, SP + 4 * k).flags(0, 11).pc(0, AT + 2);
            Bench.before("down " + k, 11, new int[8], Asm.spDown(k)).run(1).sp(0, SP - 4 * k).flags(0, 11).pc(0, AT + 2);
        }
    }

    /** "of r0 .. r7 (bits 0 .. 7) and LR (bit 8), in this order, those named are stored one behind the other" */
    private static void everyPush() {
        int[] r = {AT + 5, 11, 12, 13, 14, 15, 16, 17};
        for (int list = 0; list < 512; list++) {
            Board x = Bench.before("push " + list, 11, r, Asm.blx(0), 0, Asm.push(list), Asm.rest()).run(2);
            int at = 32 - Integer.bitCount(list);
            x.sp(0, Bench.BLOCK + 4 * at).pc(0, AT + 6).flags(0, 11).lr(0, AT + 3).registers(0, r).word(32, 0);
            for (int k = 0; k < 9; k++) {
                if ((list >> k & 1) == 1) {
                    x.word(at, k == 8 ? AT + 3 : r[k]);
                    at++;
                }
            }
        }
    }

    /** "POP: r0 .. r7 and PC (bit 8) become the words from SP on in the same way; SP is then behind them" */
    private static void everyPop() {
        int[] r = {10, 11, 12, 13, 14, 15, 16, 17};
        int list = Asm.push(0xFF);
        for (int named = 0; named < 512; named++) {
            // The words from SP on are 11, 13, 15, 17, and then 10 .. 17: odd ones stand on odd and even places.
            Board x = Bench.before("pop " + named, 11, r, list, Asm.push(0xAA), Asm.pop(named)).run(3);
            int[] words = {11, 13, 15, 17, 10, 11, 12, 13, 14};
            int[] want = r.clone();
            int at = 0;
            for (int k = 0; k < 8; k++) {
                if ((named >> k & 1) == 1) {
                    want[k] = words[at++];
                }
            }
            boolean jumps = named > 255;
            boolean even = jumps && words[at] % 2 == 0;
            x.faults(0, even ? 5 : 0, even ? 1 : 0).registers(0, even ? r : want).flags(0, 11).lr(0, 0);
            x.sp(0, SP - 48 + (even ? 0 : 4 * (jumps ? at + 1 : at)));
            x.pc(0, even ? AT + 4 : jumps ? words[at] - 1 : AT + 6);
        }
    }

    /** The last halfwords that are something and the first ones that are not, at every border. */
    private static void undefinedNeighbours() {
        int[] something = {0x43FF, 0x4700, 0x4738, 0x4770, 0x4780, 0x47B8, 0x47F0, 0x4800, 0x4FFF, 0x6000, 0x6FFF, 0x9000,
            0x9FFF, 0xA800, 0xAFFF, 0xB000, 0xB0FF, 0xB400, 0xB5FF, 0xBC00, 0xBDFF, 0xD000, 0xDDFF, 0xDF00, 0xDFFF,
            0xE000, 0xE7FF};
        int[] nothing = {0x4400, 0x46FF, 0x4701, 0x4707, 0x4740, 0x4768, 0x4778, 0x4781, 0x47C0, 0x47E8, 0x47F8, 0x47FF,
            0x5000, 0x5FFF, 0x7000, 0x8FFF, 0xA000, 0xA7FF, 0xB100, 0xB3FF, 0xB600, 0xBBFF, 0xBE00, 0xBFFF, 0xC000,
            0xCFFF, 0xDE00, 0xDEFF, 0xE800, 0xFFFF};
        for (int h : something) {
            Board x = Bench.before("defined " + h, 0, new int[8], h).run(1);
            Checks.due("fault 2 of " + h, x.kernel.fault(0) == 2, false);
        }
        for (int h : nothing) {
            Board x = Bench.before("undefined " + h, 11, of(), h).run(1);
            x.faults(0, 2, 1).registers(0, of()).flags(0, 11).pc(0, AT).state(0, 2).sp(0, SP);
        }
    }
}
