/** Code that makes calls one behind the other, with any numbers in r0 .. r2, for the tests. */
final class Calls {
    static final int YIELD = 0;
    static final int SUBSCRIBE = 1;
    static final int COMMAND = 2;
    static final int ALLOW = 3;
    static final int ALARM = 0;
    static final int CONSOLE = 1;
    static final int SENSOR = 2;
    /** How many steps a call takes: three loads, and the CALL. */
    static final int STEPS = 4;

    private Calls() {
    }

    static int[] ask(int call, int r0, int r1, int r2) {
        return new int[] {call, r0, r1, r2};
    }

    /** Four steps for each call, and then a rest; the numbers lie behind, where the code begins at ENTRY 6. */
    static int[] code(int[]... asks) {
        int pool = 4 * asks.length + 2;
        int[] code = new int[pool + 6 * asks.length];
        for (int a = 0; a < asks.length; a++) {
            for (int r = 0; r < 3; r++) {
                int k = 4 * a + r;
                int place = pool + 6 * a + 2 * r;
                code[k] = Asm.literal(r, (12 + 2 * place - (12 + 2 * k + 4 & -4)) / 4);
                code[place] = asks[a][1 + r] & 65535;
                code[place + 1] = asks[a][1 + r] >>> 16;
            }
            code[4 * a + 3] = Asm.call(asks[a][0]);
        }
        code[4 * asks.length] = Asm.rest();
        return code;
    }

    /** One process: 32 words from 4096 on, 16 of them kept, SP at 4160, the first frame at 4128. */
    static Board board(String name, int[]... asks) {
        return new Board(name, Asm.process(1, 16, 0, code(asks)));
    }

    /** One call that is made as the first one, and its answer. */
    static Board first(String name, int[] ask, int answer) {
        return board(name, ask).run(STEPS).register(0, 0, answer).sp(0, 4128).state(0, 0);
    }
}
