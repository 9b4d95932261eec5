/** A place for single instructions: registers and flags are set first, by code that comes before. */
final class Bench {
    static final int MIN = Integer.MIN_VALUE;
    static final int MAX = Integer.MAX_VALUE;
    /** Where the instruction in question lies. */
    static final int AT = 36;
    /** Where the block and SP are: 64 words, 32 of them kept. */
    static final int BLOCK = 4096;
    static final int SP = BLOCK + 128;

    private Bench() {
    }

    /** Two numbers whose sum sets the flags, and what then changes N and Z alone. */
    private static int[] recipe(int flags) {
        int nothing = Asm.addrSp(6, 0);
        switch (flags) {
            case 0:
                return new int[] {1, 1, nothing};
            case 1:
                return new int[] {MAX, 1, Asm.mov(6, 1)};
            case 2:
                return new int[] {-1, 2, nothing};
            case 3:
                return new int[] {MIN, -1, nothing};
            case 4:
                return new int[] {0, 0, nothing};
            case 5:
                return new int[] {MAX, 1, Asm.mov(6, 0)};
            case 6:
                return new int[] {-1, 1, nothing};
            case 7:
                return new int[] {MIN, MIN, nothing};
            case 8:
                return new int[] {-1, 0, nothing};
            case 9:
                return new int[] {MAX, 1, nothing};
            case 10:
                return new int[] {-1, -1, nothing};
            default:
                return new int[] {MIN, -1, Asm.alu(12, 6, 7)};
        }
    }

    /** A board whose process has done 12 steps, has these registers and flags (0 .. 11), and is before h. */
    static Board before(String name, int flags, int[] registers, int... h) {
        int[] recipe = recipe(flags);
        int[] values = new int[10];
        System.arraycopy(registers, 0, values, 2, registers.length);
        values[0] = recipe[0];
        values[1] = recipe[1];
        int pool = 6 + 12 + h.length + 1;
        pool += pool & 1;
        int[] code = new int[pool - 6 + 20];
        int k = 0;
        code[k] = literal(k++, 6, pool, 0);
        code[k] = literal(k++, 7, pool, 1);
        code[k++] = Asm.alu(11, 6, 7);
        code[k++] = recipe[2];
        for (int r = 0; r < 8; r++) {
            code[k] = literal(k++, r, pool, 2 + r);
        }
        for (int each : h) {
            code[k++] = each;
        }
        code[k] = Asm.rest();
        for (int j = 0; j < 10; j++) {
            code[pool - 6 + 2 * j] = values[j] & 65535;
            code[pool - 6 + 2 * j + 1] = values[j] >>> 16;
        }
        Board x = new Board(name, Asm.process(2, 32, 0, code));
        return x.run(12).flags(0, flags).pc(0, AT);
    }

    private static int literal(int k, int register, int pool, int j) {
        int base = 12 + 2 * k + 4 & -4;
        return Asm.literal(register, (2 * pool + 4 * j - base) / 4);
    }
}
