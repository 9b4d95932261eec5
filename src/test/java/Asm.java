import java.util.ArrayList;
import java.util.List;

/** The instructions as halfwords, and processes as headers with code, for the tests. */
final class Asm {
    static final int MAGIC = 21570;

    private Asm() {
    }

    static int lsl(int d, int n, int i) {
        return i << 6 | n << 3 | d;
    }

    static int lsr(int d, int n, int i) {
        return 1 << 11 | i << 6 | n << 3 | d;
    }

    static int asr(int d, int n, int i) {
        return 2 << 11 | i << 6 | n << 3 | d;
    }

    /** kind 0 rn + rm, 1 rn - rm, 2 rn + m, 3 rn - m. */
    static int three(int kind, int d, int n, int m) {
        return 3 << 11 | kind << 9 | m << 6 | n << 3 | d;
    }

    static int mov(int t, int b) {
        return 4 << 11 | t << 8 | b;
    }

    static int cmp(int t, int b) {
        return 5 << 11 | t << 8 | b;
    }

    static int add(int t, int b) {
        return 6 << 11 | t << 8 | b;
    }

    static int sub(int t, int b) {
        return 7 << 11 | t << 8 | b;
    }

    static int alu(int kind, int d, int n) {
        return 16 << 10 | kind << 6 | n << 3 | d;
    }

    static int bx(int r) {
        return 142 << 7 | r << 3;
    }

    static int blx(int r) {
        return 143 << 7 | r << 3;
    }

    static int literal(int t, int b) {
        return 9 << 11 | t << 8 | b;
    }

    static int str(int d, int n, int i) {
        return 12 << 11 | i << 6 | n << 3 | d;
    }

    static int ldr(int d, int n, int i) {
        return 13 << 11 | i << 6 | n << 3 | d;
    }

    static int strSp(int t, int b) {
        return 18 << 11 | t << 8 | b;
    }

    static int ldrSp(int t, int b) {
        return 19 << 11 | t << 8 | b;
    }

    static int addrSp(int t, int b) {
        return 21 << 11 | t << 8 | b;
    }

    static int spUp(int words) {
        return 176 << 8 | words;
    }

    static int spDown(int words) {
        return 176 << 8 | 128 | words;
    }

    static int push(int list) {
        return 90 << 9 | list;
    }

    static int pop(int list) {
        return 94 << 9 | list;
    }

    /** far counts halfwords from the one two behind the branch. */
    static int branchIf(int c, int far) {
        return 13 << 12 | c << 8 | far & 255;
    }

    static int branch(int far) {
        return 28 << 11 | far & 2047;
    }

    static int call(int b) {
        return 13 << 12 | 15 << 8 | b;
    }

    /** A branch to itself. */
    static int rest() {
        return branch(-2);
    }

    static final int YIELD = call(0);
    static final int SUBSCRIBE = call(1);
    static final int COMMAND = call(2);
    static final int ALLOW = call(3);

    /** A process with the entry behind its header; the code is filled up to an even length. */
    static int[] process(int size, int keep, int policy, int... code) {
        int total = Math.max(8, 6 + code.length + (code.length & 1));
        int[] image = new int[total];
        int[] header = {MAGIC, total, size, keep, 6, policy};
        System.arraycopy(header, 0, image, 0, 6);
        System.arraycopy(code, 0, image, 6, code.length);
        return image;
    }

    static int[] join(int[]... parts) {
        List<Integer> all = new ArrayList<>();
        for (int[] part : parts) {
            for (int h : part) {
                all.add(h);
            }
        }
        return all.stream().mapToInt(Integer::intValue).toArray();
    }

    /** mov r0, mov r1, mov r2, and the call: four halfwords. */
    static int[] ask(int call, int r0, int r1, int r2) {
        return new int[] {mov(0, r0), mov(1, r1), mov(2, r2), call};
    }
}
