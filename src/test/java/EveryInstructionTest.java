import java.util.Random;
import java.util.TreeMap;

/**
 * Every halfword there is, as an instruction, on GrantKernel and on PlainModel side by side: a
 * process fills words, flags and registers with values that a fixed seed chooses, then does it.
 */
public final class EveryInstructionTest {
    private static final int HALFWORDS = 65536;
    private static final int HEADER = 6;
    private static final int STEPS = 23;
    private static final int AT = HEADER + STEPS;
    private static final int POOL = AT + 3;
    /** Eight words to be pushed, two for the flags, where LR is set, and eight registers. */
    private static final int FLAGS = 8;
    private static final int LINK = 10;
    private static final int REGISTERS = 11;
    private static final int VALUES = 19;

    private final Random random;
    private final GrantKernel board = new GrantKernel();
    private final PlainModel model = new PlainModel();
    private final String name;

    private EveryInstructionTest(int h, long seed) {
        random = new Random(seed);
        name = "halfword " + h + ", seed " + seed + ": ";
        int[] image = image(h);
        for (int k = 0; k < image.length; k++) {
            board.burn(k, image[k]);
            model.burn(k, image[k]);
        }
        due("boot()", board.boot(), model.boot());
        due("run()", board.run(STEPS), STEPS);
        model.run(STEPS);
        due("PC before it", board.register(0, 10), 2 * AT);
    }

    public static void main(String[] args) {
        int rounds = args.length > 0 ? Integer.parseInt(args[0]) : 1;
        TreeMap<Integer, Integer> faults = new TreeMap<>();
        for (int round = 0; round < rounds; round++) {
            for (int h = 0; h < HALFWORDS; h++) {
                EveryInstructionTest each = new EveryInstructionTest(h, (long) round * HALFWORDS + h);
                each.step();
                faults.merge(each.model.fault(0), 1, Integer::sum);
            }
        }
        // A fetch cannot fault here, nor can a frame be refused.
        for (int number : new int[] {0, 2, 3, 4, 5}) {
            Checks.due("instructions that had the fault " + number, faults.getOrDefault(number, 0) > 0, true);
        }
        Checks.close("EveryInstructionTest");
    }

    private void step() {
        due("run(1)", board.run(1), model.run(1));
        for (int k = 0; k < 12; k++) {
            due("register(0, " + k + ")", board.register(0, k), model.register(0, k));
        }
        for (int k = 0; k < 128; k++) {
            due("word(" + k + ")", board.word(k), model.word(k));
        }
        due("state(0)", board.state(0), model.state(0));
        due("open(0)", board.open(0), model.open(0));
        due("queued(0)", board.queued(0), model.queued(0));
        due("fault(0)", board.fault(0), model.fault(0));
        due("faults(0)", board.faults(0), model.faults(0));
        due("outputs()", board.outputs(), model.outputs.size());
    }

    /** The text is made for wrong answers alone: there are millions of right ones. */
    private void due(String call, int got, int want) {
        Checks.due(got == want ? call : name + call, got, want);
    }

    private int[] image(int h) {
        int[] code = new int[POOL - HEADER + 2 * VALUES];
        int k = 0;
        for (int r = 0; r < 8; r++) {
            code[k] = load(k++, r, r);
        }
        code[k++] = Asm.push(511);
        code[k] = load(k++, 6, FLAGS);
        code[k] = load(k++, 7, FLAGS + 1);
        code[k++] = Asm.alu(11, 6, 7);
        code[k++] = random.nextBoolean() ? Asm.mov(6, random.nextInt(2)) : Asm.addrSp(6, 0);
        code[k] = load(k++, 6, LINK);
        code[k++] = Asm.blx(6);
        int link = 2 * (HEADER + k) + 1;
        for (int r = 0; r < 8; r++) {
            code[k] = load(k++, r, REGISTERS + r);
        }
        code[k] = h;
        for (int j = 0; j < VALUES; j++) {
            int v = j == LINK ? link : value();
            code[POOL - HEADER + 2 * j] = v & 65535;
            code[POOL - HEADER + 2 * j + 1] = v >>> 16;
        }
        return Asm.process(2, 32, 0, code);
    }

    private static int load(int k, int register, int j) {
        int base = 2 * (HEADER + k) + 4 & -4;
        return Asm.literal(register, (2 * POOL + 4 * j - base) / 4);
    }

    private int value() {
        switch (random.nextInt(8)) {
            case 0:
                return random.nextInt();
            case 1:
                return random.nextInt(80) - 40;
            case 2:
                return new int[] {Bench.MIN, Bench.MAX, Bench.MIN + 1, -1, 0, 1}[random.nextInt(6)];
            case 3:
                return 2 * random.nextInt(POOL) + 1;
            case 4:
                return random.nextInt(2 * POOL);
            case 5:
                return 4096 + random.nextInt(512);
            default:
                // Many addresses of words in the block, or the loads and stores would seldom do anything.
                return 4096 + 4 * random.nextInt(64);
        }
    }
}
