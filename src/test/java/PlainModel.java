import java.math.BigInteger;
import java.util.ArrayDeque;
import java.util.ArrayList;
import java.util.Arrays;
import java.util.Deque;
import java.util.List;
import java.util.TreeMap;
import java.util.TreeSet;

/**
 * The document once more, sentence by sentence and with no thought of speed, for ModelTest to
 * compare with. It shares no code and as few ideas as possible with GrantKernel: faults are
 * exceptions behind which everything is put back, open words are a set of addresses, sums are
 * BigIntegers and shifts go bit by bit.
 */
final class PlainModel {
    static final class Fault extends RuntimeException {
        private static final long serialVersionUID = 1L;
        final int number;

        Fault(int number) {
            super(null, null, false, false);
            this.number = number;
        }
    }

    static final class Proc {
        int q, total, size, keep, entry, policy, firstWord;
        int state, latest, count, restarted;
        boolean frame;
        int[] regs = new int[12];
        List<Integer> grantDrivers = new ArrayList<>();
        TreeMap<Integer, int[]> subscriptions = new TreeMap<>();
        TreeMap<Integer, List<Integer>> buffers = new TreeMap<>();
        Deque<int[]> upcalls = new ArrayDeque<>();

        int words() {
            return 16 * (1 << size);
        }

        int address() {
            return 4096 + 4 * firstWord;
        }

        TreeSet<Integer> openWith(int grantWords) {
            TreeSet<Integer> open = new TreeSet<>();
            int sub = words() / 8;
            for (int s = 0; s < 8; s++) {
                if ((s + 1) * sub <= words() - grantWords) {
                    for (int k = s * sub; k < (s + 1) * sub; k++) {
                        open.add(address() + 4 * k);
                    }
                }
            }
            return open;
        }

        TreeSet<Integer> open() {
            return openWith(2 * grantDrivers.size());
        }

        int grantAt(int driver) {
            int place = grantDrivers.indexOf(driver);
            return place < 0 ? -1 : address() + 4 * (words() - 2 * (place + 1));
        }
    }

    final int[] flash = new int[256];
    final int[] ram = new int[128];
    final List<Proc> procs = new ArrayList<>();
    final List<Integer> inputs = new ArrayList<>();
    final List<Integer> outputs = new ArrayList<>();
    int now, turn = -1, left;

    Proc proc(int p) {
        return p >= 0 && p < procs.size() ? procs.get(p) : null;
    }

    int burn(int k, int h) {
        if (k < 0 || k > 255 || h < 0 || h > 65535) {
            return -1;
        }
        int old = flash[k];
        flash[k] = h;
        return old;
    }

    int boot() {
        Arrays.fill(ram, 0);
        inputs.clear();
        outputs.clear();
        procs.clear();
        now = 0;
        turn = -1;
        int q = 0;
        while (256 - q >= 6 && flash[q] == 21570) {
            int total = flash[q + 1];
            if (total < 8 || total % 2 == 1 || q + total > 256) {
                break;
            }
            Proc x = new Proc();
            x.q = q;
            x.total = total;
            x.size = flash[q + 2];
            x.keep = flash[q + 3];
            x.entry = flash[q + 4];
            x.policy = flash[q + 5];
            if (x.size <= 2 && x.keep >= 8 && x.keep <= x.words() && x.entry >= 6
                    && x.entry <= total - 1 && x.policy <= 15 && procs.size() < 4) {
                int w = 0;
                if (!procs.isEmpty()) {
                    Proc before = procs.get(procs.size() - 1);
                    w = before.firstWord + before.words();
                }
                while (w % x.words() != 0) {
                    w++;
                }
                if (w + x.words() <= 128) {
                    x.firstWord = w;
                    procs.add(x);
                    start(x);
                }
            }
            q += total;
        }
        return procs.size();
    }

    void start(Proc x) {
        for (int k = 0; k < x.words(); k++) {
            ram[x.firstWord + k] = 0;
        }
        Arrays.fill(x.regs, 0);
        x.regs[8] = x.address() + 4 * x.keep;
        x.regs[10] = 2 * (x.q + x.entry);
        x.state = 0;
        x.frame = false;
        lose(x);
    }

    void lose(Proc x) {
        x.grantDrivers.clear();
        x.subscriptions.clear();
        x.buffers.clear();
        x.upcalls.clear();
    }

    int at(int address) {
        return ram[(address - 4096) / 4];
    }

    void put(int address, int value) {
        ram[(address - 4096) / 4] = value;
    }

    int run(int n) {
        if (n < 0 || n > 400) {
            return -1;
        }
        int steps = 0;
        for (int i = 0; i < n; i++) {
            steps += tick() ? 1 : 0;
        }
        return steps;
    }

    boolean tick() {
        now++;
        for (Proc x : procs) {
            int g = x.grantAt(0);
            if (g != -1 && at(g) == 1 && at(g + 4) <= now) {
                put(g, 0);
                upcall(x, 0, now, at(g + 4));
            }
        }
        if (turn == -1 || procs.get(turn).state != 0 || left == 0) {
            int found = -1;
            int base = turn == -1 ? procs.size() - 1 : turn;
            for (int k = procs.size(); k >= 1; k--) {
                int c = (base + k) % procs.size();
                if (procs.get(c).state == 0) {
                    found = c;
                }
            }
            if (found == -1) {
                return false;
            }
            turn = found;
            left = 10;
        }
        Proc x = procs.get(turn);
        try {
            if (x.frame) {
                take(x);
            }
            guarded(x);
            left--;
            if (left == 0 && !x.frame) {
                stack(x);
            }
        } catch (Fault f) {
            left = 0;
            x.latest = f.number;
            x.count++;
            if (x.restarted < x.policy) {
                x.restarted++;
                start(x);
            } else {
                x.state = 2;
                lose(x);
            }
        }
        return true;
    }

    void guarded(Proc x) {
        int[] regs = x.regs.clone();
        int[] words = ram.clone();
        try {
            instruction(x);
        } catch (Fault f) {
            x.regs = regs;
            System.arraycopy(words, 0, ram, 0, 128);
            throw f;
        }
    }

    void allOpen(Proc x, int from) {
        for (int k = 0; k < 8; k++) {
            if (!x.open().contains(from + 4 * k)) {
                throw new Fault(6);
            }
        }
    }

    void stack(Proc x) {
        int f = x.regs[8] - 32;
        boolean more = f % 8 != 0;
        if (more) {
            f -= 4;
        }
        allOpen(x, f);
        int[] w = {x.regs[0], x.regs[1], x.regs[2], x.regs[3], 0, x.regs[9], x.regs[10],
            x.regs[11] * 268435456 + 16777216 + (more ? 512 : 0)};
        for (int k = 0; k < 8; k++) {
            put(f + 4 * k, w[k]);
        }
        x.regs[8] = f;
        x.frame = true;
    }

    void take(Proc x) {
        int f = x.regs[8];
        allOpen(x, f);
        for (int k = 0; k < 4; k++) {
            x.regs[k] = at(f + 4 * k);
        }
        x.regs[9] = at(f + 20);
        x.regs[10] = at(f + 24) & 0xFFFFFFFE;
        x.regs[11] = at(f + 28) >>> 28;
        x.regs[8] = f + 32 + ((at(f + 28) & 512) != 0 ? 4 : 0);
        x.frame = false;
    }

    boolean inCode(Proc x, int a) {
        return a >= 2 * x.q && a <= 2 * (x.q + x.total) - 1;
    }

    int load(Proc x, int a) {
        if (a % 4 != 0) {
            throw new Fault(3);
        }
        if (inCode(x, a)) {
            return flash[a / 2 + 1] * 65536 + flash[a / 2];
        }
        if (!x.open().contains(a)) {
            throw new Fault(4);
        }
        return at(a);
    }

    void store(Proc x, int a, int v) {
        if (a % 4 != 0) {
            throw new Fault(3);
        }
        if (!x.open().contains(a)) {
            throw new Fault(4);
        }
        put(a, v);
    }

    static boolean flag(Proc x, int bit) {
        return (x.regs[11] / bit) % 2 == 1;
    }

    static void flag(Proc x, int bit, boolean on) {
        if (flag(x, bit) != on) {
            x.regs[11] += on ? bit : -bit;
        }
    }

    static int nz(Proc x, int r) {
        flag(x, 8, r < 0);
        flag(x, 4, r == 0);
        return r;
    }

    static BigInteger big(int v) {
        return BigInteger.valueOf(v);
    }

    static BigInteger bigUnsigned(int v) {
        return new BigInteger(Integer.toUnsignedString(v));
    }

    static int add(Proc x, int a, int b, int c) {
        BigInteger signed = big(a).add(big(b)).add(big(c));
        BigInteger unsigned = bigUnsigned(a).add(bigUnsigned(b)).add(big(c));
        flag(x, 2, unsigned.bitLength() > 32);
        flag(x, 1, signed.bitLength() > 31);
        return nz(x, signed.intValue());
    }

    static int sub(Proc x, int a, int b) {
        return add(x, a, -1 - b, 1);
    }

    /** One bit at a time: 0 left, 1 right, 2 right with sign. */
    static int shift(Proc x, int kind, int v, int count) {
        for (int k = 0; k < count; k++) {
            boolean high = v < 0;
            boolean low = (v & 1) == 1;
            flag(x, 2, kind == 0 ? high : low);
            if (kind == 0) {
                v = v + v;
            } else {
                v = v >>> 1;
                if (kind == 2 && high) {
                    v = v | Integer.MIN_VALUE;
                }
            }
        }
        return nz(x, v);
    }

    static int rotate(Proc x, int v, int count) {
        for (int k = 0; k < count; k++) {
            v = (v >>> 1) + (v << 31);
            flag(x, 2, v < 0);
        }
        return nz(x, v);
    }

    void instruction(Proc x) {
        int[] r = x.regs;
        int pc = r[10];
        if (pc % 2 != 0 || !inCode(x, pc)) {
            throw new Fault(1);
        }
        int h = flash[pc / 2];
        int i = h >> 6 & 31, m = h >> 6 & 7, n = h >> 3 & 7, d = h & 7, t = h >> 8 & 7, b = h & 255;
        r[10] = pc + 2;
        int op = h >> 11;
        if (op == 0) {
            r[d] = shift(x, 0, r[n], i);
        } else if (op == 1 || op == 2) {
            r[d] = shift(x, op, r[n], i == 0 ? 32 : i);
        } else if (op == 3) {
            int kind = h >> 9 & 3;
            int y = kind < 2 ? r[m] : m;
            r[d] = kind % 2 == 0 ? add(x, r[n], y, 0) : sub(x, r[n], y);
        } else if (op == 4) {
            r[t] = nz(x, b);
        } else if (op == 5) {
            sub(x, r[t], b);
        } else if (op == 6) {
            r[t] = add(x, r[t], b, 0);
        } else if (op == 7) {
            r[t] = sub(x, r[t], b);
        } else if (h >> 10 == 16) {
            combine(x, h >> 6 & 15, d, n);
        } else if ((h >> 7 == 142 || h >> 7 == 143) && d == 0) {
            int which = h >> 3 & 15;
            if (which > 7 && which != 14) {
                throw new Fault(2);
            }
            int value = which == 14 ? r[9] : r[which];
            if (value % 2 == 0) {
                throw new Fault(5);
            }
            r[10] = value - 1;
            if (h >> 7 == 143) {
                r[9] = pc + 2 + 1;
            }
        } else if (op == 9) {
            r[t] = load(x, Math.floorDiv(pc + 4, 4) * 4 + 4 * b);
        } else if (op == 12) {
            store(x, r[n] + 4 * i, r[d]);
        } else if (op == 13) {
            r[d] = load(x, r[n] + 4 * i);
        } else if (op == 18) {
            store(x, r[8] + 4 * b, r[t]);
        } else if (op == 19) {
            r[t] = load(x, r[8] + 4 * b);
        } else if (op == 21) {
            r[t] = r[8] + 4 * b;
        } else if (h >> 8 == 176) {
            r[8] = (h & 128) != 0 ? r[8] - 4 * (h & 127) : r[8] + 4 * (h & 127);
        } else if (h >> 9 == 90) {
            List<Integer> values = new ArrayList<>();
            for (int k = 0; k < 9; k++) {
                if ((h & 1 << k) != 0) {
                    values.add(k == 8 ? r[9] : r[k]);
                }
            }
            int first = r[8] - 4 * values.size();
            for (int k = 0; k < values.size(); k++) {
                store(x, first + 4 * k, values.get(k));
            }
            r[8] = first;
        } else if (h >> 9 == 94) {
            int from = r[8];
            int goal = pc + 2;
            boolean even = false;
            for (int k = 0; k < 9; k++) {
                if ((h & 1 << k) != 0) {
                    int v = load(x, from);
                    from += 4;
                    if (k == 8) {
                        even = v % 2 == 0;
                        goal = v - 1;
                    } else {
                        r[k] = v;
                    }
                }
            }
            if (even) {
                throw new Fault(5);
            }
            r[8] = from;
            r[10] = goal;
        } else if (op == 26 || op == 27) {
            int c = h >> 8 & 15;
            if (c == 14) {
                throw new Fault(2);
            }
            if (c == 15) {
                call(x, b);
            } else if (condition(x, c)) {
                r[10] = pc + 4 + 2 * (b > 127 ? b - 256 : b);
            }
        } else if (op == 28) {
            int far = h & 2047;
            r[10] = pc + 4 + 2 * (far > 1023 ? far - 2048 : far);
        } else {
            throw new Fault(2);
        }
    }

    static boolean condition(Proc x, int c) {
        if (c % 2 == 1) {
            return !condition(x, c - 1);
        }
        boolean n = flag(x, 8), z = flag(x, 4), cc = flag(x, 2), v = flag(x, 1);
        return c == 0 ? z : c == 2 ? cc : c == 4 ? n : c == 6 ? v : c == 8 ? cc & !z
            : c == 10 ? n == v : !z & n == v;
    }

    static void combine(Proc p, int kind, int d, int n) {
        int x = p.regs[d], y = p.regs[n], c = flag(p, 2) ? 1 : 0;
        Integer result = null;
        switch (kind) {
            case 0 -> result = nz(p, x & y);
            case 1 -> result = nz(p, x ^ y);
            case 2, 3, 4 -> result = shift(p, kind - 2, x, y & 255);
            case 5 -> result = add(p, x, y, c);
            case 6 -> result = add(p, x, -1 - y, c);
            case 7 -> result = rotate(p, x, y & 255);
            case 8 -> nz(p, x & y);
            case 9 -> result = sub(p, 0, y);
            case 10 -> sub(p, x, y);
            case 11 -> add(p, x, y, 0);
            case 12 -> result = nz(p, x | y);
            case 13 -> result = nz(p, big(x).multiply(big(y)).intValue());
            case 14 -> result = nz(p, x & (-1 - y));
            default -> result = nz(p, -1 - y);
        }
        if (result != null) {
            p.regs[d] = result;
        }
    }

    void call(Proc x, int number) {
        int r0 = x.regs[0], r1 = x.regs[1], r2 = x.regs[2];
        stack(x);
        if (number == 0) {
            if (x.upcalls.isEmpty()) {
                x.state = 1;
            } else {
                int[] u = x.upcalls.removeFirst();
                deliver(x, u[0], u[1], u[2]);
            }
            return;
        }
        int answer = answer(x, number, r0, r1, r2);
        put(x.regs[8], answer);
    }

    int answer(Proc x, int number, int r0, int r1, int r2) {
        if (number > 3) {
            return -1;
        }
        if (r0 != 0 && r0 != 1 && r0 != 2) {
            return -2;
        }
        if (x.grantAt(r0) == -1) {
            TreeSet<Integer> then = x.openWith(2 * x.grantDrivers.size() + 2);
            boolean lost = then.size() < x.keep;
            for (List<Integer> buffer : x.buffers.values()) {
                lost |= !then.containsAll(buffer);
            }
            if (lost) {
                return -4;
            }
            x.grantDrivers.add(r0);
            put(x.grantAt(r0), 0);
            put(x.grantAt(r0) + 4, 0);
        }
        if (number == 1) {
            x.subscriptions.put(r0, new int[] {r1, r2});
            x.upcalls.removeIf(u -> u[0] == r0);
            return 0;
        }
        if (number == 3) {
            return allow(x, r0, r1, r2);
        }
        int g = x.grantAt(r0);
        if (r1 == 0) {
            return 0;
        }
        if (r0 == 0 && r1 == 1) {
            if (r2 < 1 || r2 > 1000) {
                return -3;
            }
            put(g, 1);
            put(g + 4, now + r2);
            return 0;
        }
        if (r0 == 0 && r1 == 2) {
            int old = at(g);
            put(g, 0);
            return old;
        }
        if (r0 == 0 && r1 == 3) {
            return now;
        }
        if (r0 == 1 && r1 == 1) {
            if (r2 < 0) {
                return -3;
            }
            int k = 0;
            for (int a : x.buffers.getOrDefault(1, List.of())) {
                if (k < r2) {
                    outputs.add(at(a));
                    k++;
                }
            }
            put(g + 4, at(g + 4) + k);
            upcall(x, 1, k, 0);
            return 0;
        }
        if (r0 == 1 && r1 == 2) {
            if (at(g) == 1) {
                return -5;
            }
            if (inputs.isEmpty()) {
                put(g, 1);
            } else {
                received(x, inputs.remove(0));
            }
            return 0;
        }
        if (r0 == 2 && r1 == 1) {
            if (at(g) == 1) {
                return -5;
            }
            put(g, 1);
            return 0;
        }
        return -1;
    }

    int allow(Proc x, int driver, int from, int count) {
        List<Integer> buffer = new ArrayList<>();
        if (count < 0 || count > 128) {
            return -3;
        }
        for (int k = 0; k < count; k++) {
            int a = from + 4 * k;
            if (!x.open().contains(a)) {
                return -3;
            }
            buffer.add(a);
        }
        x.buffers.put(driver, buffer);
        return 0;
    }

    void received(Proc x, int v) {
        List<Integer> buffer = x.buffers.getOrDefault(1, List.of());
        if (!buffer.isEmpty()) {
            put(buffer.get(0), v);
        }
        put(x.grantAt(1), 0);
        upcall(x, 1, v, 1);
    }

    void upcall(Proc x, int driver, int a, int b) {
        int[] s = x.subscriptions.get(driver);
        if (s == null || s[0] == 0) {
            return;
        }
        if (x.state == 1) {
            deliver(x, driver, a, b);
        } else if (x.upcalls.size() < 4) {
            x.upcalls.addLast(new int[] {driver, a, b});
        }
    }

    void deliver(Proc x, int driver, int a, int b) {
        int[] s = x.subscriptions.get(driver);
        int f = x.regs[8];
        put(f, a);
        put(f + 4, b);
        put(f + 8, driver);
        put(f + 12, s[1]);
        put(f + 20, at(f + 24) + 1);
        put(f + 24, s[0] & 0xFFFFFFFE);
        x.state = 0;
    }

    boolean type(int v) {
        for (Proc x : procs) {
            if (x.grantAt(1) != -1 && at(x.grantAt(1)) == 1) {
                received(x, v);
                return true;
            }
        }
        if (inputs.size() == 8) {
            return false;
        }
        inputs.add(v);
        return true;
    }

    int sample(int v) {
        int served = 0;
        for (Proc x : procs) {
            int g = x.grantAt(2);
            if (g != -1 && at(g) == 1) {
                put(g, 0);
                put(g + 4, at(g + 4) + 1);
                upcall(x, 2, v, at(g + 4));
                served++;
            }
        }
        return served;
    }

    int output(int k) {
        return k < 0 || k > 15 || k >= outputs.size() ? 0 : outputs.get(outputs.size() - 1 - k);
    }

    int state(int p) {
        return proc(p) == null ? -1 : proc(p).state;
    }

    int register(int p, int k) {
        Proc x = proc(p);
        if (x == null || k < 0 || k > 11) {
            return 0;
        }
        if (x.frame) {
            int f = x.regs[8];
            switch (k) {
                case 0, 1, 2, 3:
                    return at(f + 4 * k);
                case 9:
                    return at(f + 20);
                case 10:
                    return at(f + 24);
                case 11:
                    return at(f + 28) >>> 28;
                default:
                    break;
            }
        }
        return x.regs[k];
    }

    int word(int k) {
        return k < 0 || k > 127 ? 0 : ram[k];
    }

    int block(int p) {
        return proc(p) == null ? -1 : proc(p).address();
    }

    int open(int p) {
        return proc(p) == null ? -1 : proc(p).open().size();
    }

    int grant(int p, int d) {
        return proc(p) == null ? -1 : proc(p).grantAt(d);
    }

    int queued(int p) {
        return proc(p) == null ? -1 : proc(p).upcalls.size();
    }

    int fault(int p) {
        return proc(p) == null ? -1 : proc(p).latest;
    }

    int faults(int p) {
        return proc(p) == null ? -1 : proc(p).count;
    }

    boolean restart(int p) {
        if (proc(p) == null) {
            return false;
        }
        start(proc(p));
        return true;
    }

    boolean stop(int p) {
        if (proc(p) == null || proc(p).state == 2) {
            return false;
        }
        proc(p).state = 2;
        lose(proc(p));
        return true;
    }
}
