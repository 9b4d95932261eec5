import java.util.ArrayList;
import java.util.Collections;
import java.util.Comparator;
import java.util.List;
import java.util.Random;
import java.util.TreeMap;
import java.util.function.IntSupplier;

/**
 * Runs of calls that a fixed seed chooses, on GrantKernel and on PlainModel side by side: every
 * answer must be the same. No object gets more than its 512 calls, so a round looks first at what
 * should have changed. The closing part makes sure that the runs reached what they are for.
 */
public final class ModelTest {
    private static final int[] ODD_VALUES = {0, 1, -1, 2, 31, 32, 33, 255, 256, 1000, 1001, 65535,
        0x7FFFFFFF, 0x80000000, 0x80000001, 0x55555555, 0xAAAAAAAA, 4096, 4097, 4098, 4608, 4604, 512, 508};

    /** What can be looked at: the same question to both sides. */
    private record View(String name, IntSupplier board, IntSupplier model) {
    }

    private static final int ACTIONS_PER_ROUND = 3;
    private static final int LOOKS_PER_ROUND = 20;

    private final Random random;
    private final GrantKernel board = new GrantKernel();
    private final PlainModel model = new PlainModel();
    private final List<View> views = new ArrayList<>();
    private final List<String> actions = new ArrayList<>();
    private final TreeMap<String, Integer> reached;
    private int[] seen;
    private int callsLeft = Board.MOST_CALLS;

    private ModelTest(long seed, TreeMap<String, Integer> reached) {
        random = new Random(seed);
        this.reached = reached;
        collectViews();
        seen = modelAnswers();
    }

    public static void main(String[] args) {
        TreeMap<String, Integer> reached = new TreeMap<>();
        int boards = args.length > 0 ? Integer.parseInt(args[0]) : 4000;
        long first = args.length > 1 ? Long.parseLong(args[1]) : 0;
        for (long seed = first; seed < first + boards; seed++) {
            new ModelTest(seed, reached).play();
        }
        String[] wanted = {"fault 1", "fault 2", "fault 3", "fault 4", "fault 5", "fault 6", "waits",
            "queued 1", "queued 4", "grants 3", "outputs", "inputs 8", "sampled", "in code", "all stopped",
            "processes 0", "processes 4", "answer -1", "answer -2", "answer -3", "answer -4", "answer -5"};
        for (String name : wanted) {
            Checks.due("runs that reached: " + name, reached.getOrDefault(name, 0) > 0, true);
        }
        if (args.length > 0) {
            System.out.println(reached);
        }
        Checks.close("ModelTest");
    }

    private void collectViews() {
        view("now()", board::now, () -> model.now);
        view("turn()", board::turn, () -> model.turn);
        view("outputs()", board::outputs, () -> model.outputs.size());
        for (int k = -1; k < 17; k++) {
            int each = k;
            view("output(" + k + ")", () -> board.output(each), () -> model.output(each));
        }
        for (int k = -1; k < 129; k++) {
            int each = k;
            view("word(" + k + ")", () -> board.word(each), () -> model.word(each));
        }
        for (int p = -1; p < 5; p++) {
            collectViewsOf(p);
        }
    }

    private void collectViewsOf(int p) {
        for (int k = -1; k < 13; k++) {
            int each = k;
            view("register(" + p + ", " + k + ")", () -> board.register(p, each), () -> model.register(p, each));
        }
        for (int d = -1; d < 4; d++) {
            int each = d;
            view("grant(" + p + ", " + d + ")", () -> board.grant(p, each), () -> model.grant(p, each));
        }
        view("state(" + p + ")", () -> board.state(p), () -> model.state(p));
        view("block(" + p + ")", () -> board.block(p), () -> model.block(p));
        view("open(" + p + ")", () -> board.open(p), () -> model.open(p));
        view("queued(" + p + ")", () -> board.queued(p), () -> model.queued(p));
        view("fault(" + p + ")", () -> board.fault(p), () -> model.fault(p));
        view("faults(" + p + ")", () -> board.faults(p), () -> model.faults(p));
    }

    private void view(String name, IntSupplier onBoard, IntSupplier onModel) {
        views.add(new View(name, onBoard, onModel));
    }

    private int[] modelAnswers() {
        return views.stream().mapToInt(v -> v.model().getAsInt()).toArray();
    }

    private void reach(String name) {
        reached.merge(name, 1, Integer::sum);
    }

    private int pick(int bound) {
        return random.nextInt(bound);
    }

    private int oneOf(int... values) {
        return values[pick(values.length)];
    }

    /** An action on both sides, and its answer. */
    private void same(String call, long got, long want) {
        callsLeft--;
        actions.add(call + " = " + got);
        check(call, got, want);
    }

    private void check(String call, long got, long want) {
        if (got != want) {
            Checks.due("model: " + call + " after " + actions, got, want);
        }
    }

    private void play() {
        burnAll(flash());
        same("boot()", board.boot(), model.boot());
        reach("processes " + model.procs.size());
        while (callsLeft > ACTIONS_PER_ROUND + LOOKS_PER_ROUND) {
            for (int k = 0; k < ACTIONS_PER_ROUND; k++) {
                oneCall();
            }
            look(LOOKS_PER_ROUND);
            note();
        }
        look(callsLeft);
    }

    private void burnAll(int[] image) {
        for (int k = 0; k < image.length; k++) {
            if (image[k] != 0) {
                same("burn(" + k + ", " + image[k] + ")", board.burn(k, image[k]), model.burn(k, image[k]));
            }
        }
    }

    /** Asks at most so many questions: first of all those whose answer should be another one by now. */
    private void look(int most) {
        int[] due = modelAnswers();
        List<Integer> order = new ArrayList<>();
        for (int k = 0; k < due.length; k++) {
            order.add(k);
        }
        Collections.shuffle(order, random);
        int[] before = seen;
        order.sort(Comparator.comparing(k -> due[k] == before[k]));
        for (int k : order.subList(0, Math.min(most, order.size()))) {
            callsLeft--;
            check(views.get(k).name(), views.get(k).board().getAsInt(), due[k]);
        }
        seen = due;
    }

    private void oneCall() {
        int kind = pick(20);
        int p = pick(6) - 1;
        int v = oneOf(ODD_VALUES);
        if (kind < 11) {
            int n = oneOf(0, 1, 1, 1, 2, 3, 5, 10, 40, 400, 401, -1, 17, 100);
            same("run(" + n + ")", board.run(n), model.run(n));
        } else if (kind < 14) {
            same("type(" + v + ")", board.type(v) ? 1 : 0, model.type(v) ? 1 : 0);
        } else if (kind < 17) {
            int served = board.sample(v);
            same("sample(" + v + ")", served, model.sample(v));
            if (served > 0) {
                reach("sampled");
            }
        } else if (kind == 17) {
            same("restart(" + p + ")", board.restart(p) ? 1 : 0, model.restart(p) ? 1 : 0);
        } else if (kind == 18 && pick(4) == 0) {
            same("stop(" + p + ")", board.stop(p) ? 1 : 0, model.stop(p) ? 1 : 0);
        } else if (kind == 19 && pick(4) == 0) {
            int k = pick(270) - 5;
            int h = pick(20) == 0 ? oneOf(-1, 65536) : pick(65536);
            same("burn(" + k + ", " + h + ")", board.burn(k, h), model.burn(k, h));
        } else if (kind == 19 && pick(8) == 0) {
            same("boot()", board.boot(), model.boot());
        }
    }

    private void note() {
        boolean stopped = !model.procs.isEmpty();
        for (PlainModel.Proc x : model.procs) {
            stopped &= x.state == 2;
            reach("fault " + x.latest);
            reach("queued " + x.upcalls.size());
            reach("grants " + x.grantDrivers.size());
            if (x.state == 1) {
                reach("waits");
            }
            if (x.frame) {
                reach("answer " + Math.max(-6, Math.min(0, model.at(x.regs[8]))));
            }
            for (int k = 0; k < 8; k++) {
                if ((x.regs[k] & 0xFFFF) == 21570) {
                    reach("in code");
                }
            }
        }
        if (stopped) {
            reach("all stopped");
        }
        if (!model.outputs.isEmpty()) {
            reach("outputs");
        }
        reach("inputs " + model.inputs.size());
    }

    private int[] flash() {
        int[] all = new int[0];
        int parts = pick(7);
        for (int k = 0; k < parts; k++) {
            int[] next = pick(12) == 0 ? strange() : process(all.length);
            if (all.length + next.length <= 256) {
                all = Asm.join(all, next);
            }
        }
        return all;
    }

    private int[] strange() {
        int[] image = process(0);
        image[pick(6)] = oneOf(0, 1, 2, 3, 5, 6, 7, 8, 9, 15, 16, 17, 21570, 32, 33, 64, 65, 65535, 256);
        return image;
    }

    private int[] process(int q) {
        int size = oneOf(0, 0, 0, 1, 1, 2);
        int words = 16 << size;
        int keep = oneOf(8, 8, 9, words / 2, words - 6, words - 4, words - 2, words);
        int[] code = new int[8 + pick(60)];
        boolean calm = pick(2) == 0;
        // A function that returns at once lies behind a branch over it.
        code[0] = Asm.branch(0);
        code[1] = Asm.bx(14);
        int k = 2;
        while (k < code.length) {
            int[] next = calm ? calmPiece(q + 6 + k, q + 7) : piece(q + 6 + k);
            if (calm && k + next.length > code.length) {
                next = new int[] {Asm.three(2, 7, 7, 1)};
            }
            for (int j = 0; j < next.length && k < code.length; j++) {
                code[k++] = next[j];
            }
        }
        if (calm || pick(3) > 0) {
            code[code.length - 1] = Asm.branch(-(code.length + 1) + (calm ? 0 : pick(6)));
        }
        return Asm.process(size, keep, pick(8) == 0 ? oneOf(1, 15) : pick(4), code);
    }

    /** What seldom faults, so that calls and upcalls add up; r0 .. r2 are for calls alone. */
    private int[] calmPiece(int at, int function) {
        int a = 3 + pick(5);
        int b = pick(8);
        switch (pick(16)) {
            case 0:
            case 1:
                return new int[] {Asm.mov(0, pick(3)), Asm.mov(1, function), Asm.lsl(1, 1, pick(8) == 0 ? 31 : 1),
                    Asm.mov(2, pick(256)), Asm.SUBSCRIBE};
            case 2:
                return Asm.ask(Asm.COMMAND, 0, pick(4), pick(30));
            case 3:
            case 4:
                return Asm.ask(Asm.COMMAND, 1, pick(3), pick(9));
            case 5:
            case 6:
                return Asm.ask(Asm.COMMAND, 2, pick(5) == 0 ? pick(4) : 1, 0);
            case 7:
                return new int[] {Asm.mov(0, pick(3)), Asm.addrSp(1, pick(8)), Asm.sub(1, 4 * pick(16)),
                    Asm.mov(2, pick(6)), Asm.ALLOW};
            case 8:
                return pick(2) == 0 ? new int[] {Asm.YIELD} : new int[] {Asm.call(oneOf(1, 2, 3, 4, 255))};
            case 9:
                return number(at, a);
            case 10:
                return new int[] {Asm.alu(pick(16), a, b)};
            case 11:
                return new int[] {Asm.strSp(b, 0), Asm.ldrSp(a, 0)};
            case 12:
                return new int[] {Asm.push(1 << a | 1 << b), Asm.pop(1 << a | 1 << b)};
            case 13:
                return new int[] {Asm.branchIf(pick(14), 0), Asm.add(a, pick(256))};
            case 14:
                return new int[] {pick(3) << 11 | pick(32) << 6 | b << 3 | a};
            default:
                return new int[] {Asm.three(pick(4), a, b, pick(8))};
        }
    }

    private int[] piece(int at) {
        int a = pick(8);
        int b = pick(8);
        switch (pick(22)) {
            case 0:
                return new int[] {pick(65536)};
            case 1:
                return new int[] {Asm.alu(pick(16), a, b)};
            case 2:
                return new int[] {pick(5 << 11)};
            case 3:
                return new int[] {Asm.addrSp(a, pick(8)), pick(2) == 0 ? Asm.str(b, a, pick(3)) : Asm.ldr(b, a, pick(3))};
            case 4:
                return new int[] {pick(2) == 0 ? Asm.push(pick(512) & pick(512)) : Asm.pop(pick(512) & pick(512))};
            case 5:
                return new int[] {pick(2) == 0 ? Asm.spUp(pick(12)) : Asm.spDown(pick(6))};
            case 6:
                return new int[] {pick(2) == 0 ? Asm.strSp(a, pick(8)) : Asm.ldrSp(a, pick(8))};
            case 7:
                return number(at, a);
            case 8:
                return new int[] {Asm.branchIf(pick(14), oneOf(-5, -3, -1, 0, 1, 2, 5))};
            case 9:
                return new int[] {Asm.mov(a, 2 * (at + 3) + pick(6) & 255), pick(2) == 0 ? Asm.bx(a) : Asm.blx(a)};
            case 10:
                return new int[] {Asm.push(256), Asm.pop(256)};
            case 11:
                return new int[] {Asm.YIELD};
            case 12:
            case 13:
                return Asm.ask(Asm.SUBSCRIBE, pick(4), 2 * at + pick(12) & 255, pick(256));
            case 14:
            case 15:
            case 16:
                return Asm.ask(Asm.COMMAND, pick(3), pick(4), pick(24));
            case 17:
                return Asm.join(new int[] {Asm.mov(0, 1), Asm.addrSp(1, pick(8)), Asm.sub(1, 4 * pick(20)),
                    Asm.mov(2, pick(8)), Asm.ALLOW});
            case 18:
                return new int[] {Asm.mov(0, pick(3)), Asm.addrSp(1, pick(2)), Asm.sub(1, oneOf(0, 32, 36, 40, 44, 2)),
                    Asm.three(3, 2, 0, pick(3)), Asm.call(oneOf(1, 2, 3, 3, 3, 4, 200))};
            case 19:
                return Asm.join(new int[] {Asm.spUp(0)}, Asm.ask(Asm.SUBSCRIBE, pick(3), 2 * at, 7),
                    Asm.ask(Asm.COMMAND, pick(3), 1, 3), new int[] {Asm.YIELD});
            case 20:
                return new int[] {Asm.blx(oneOf(0, 7, 14)), Asm.bx(14)};
            default:
                return new int[] {Asm.three(pick(4), a, b, pick(8))};
        }
    }

    /** A whole word from the code into a register, jumping over it. */
    private int[] number(int at, int register) {
        int v = pick(2) == 0 ? random.nextInt() : oneOf(ODD_VALUES);
        int[] word = {v & 65535, v >>> 16};
        boolean even = at % 2 == 0;
        int[] head = even ? new int[] {Asm.literal(register, 0), Asm.branch(1)}
            : new int[] {Asm.literal(register, 1), Asm.branch(2), 0};
        return Asm.join(head, word);
    }
}
