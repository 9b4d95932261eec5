/**
 * A small board: a processor, a flash, a RAM, up to four protected processes,
 * and a kernel with three drivers. The document's numbered promises say what
 * each public method answers.
 */
public final class GrantKernel {
    private static final int MOST_PROCESSES = 4;
    private static final int MOST_TICKS = 400;
    private static final int SLICE = 10;
    private static final int NOBODY = -1;
    private static final int REFUSED = -1;
    private static final int NONE = -1;

    private static final int FLASH_HALFWORDS = 256;
    private static final int RAM_WORDS = 128;
    private static final int RAM_ADDRESS = 4096;

    private static final int READY = 0;
    private static final int WAITS = 1;
    private static final int STOPPED = 2;

    private static final int DONE = 0;
    private static final int FAULT_FETCH = 1;
    private static final int FAULT_UNDEFINED = 2;
    private static final int FAULT_ALIGNMENT = 3;
    private static final int FAULT_ACCESS = 4;
    private static final int FAULT_EVEN = 5;
    private static final int FAULT_FRAME = 6;
    /** An instruction's outcome from here on is a CALL: CALLED plus its number. */
    private static final int CALLED = 256;

    private static final int DRIVERS = 3;
    private static final int ALARM = 0;
    private static final int CONSOLE = 1;
    private static final int SENSOR = 2;

    private final Memory memory;
    private final BoardProcess[] processes;
    private final Console console;
    private final Kernel kernel;
    private final Loader loader;
    private final Processor processor;
    private int processCount;
    private int turn;
    private int left;

    public GrantKernel() {
        memory = new Memory();
        processes = new BoardProcess[MOST_PROCESSES];
        for (int p = 0; p < MOST_PROCESSES; p++) {
            processes[p] = new BoardProcess(memory);
        }
        console = new Console();
        kernel = new Kernel(memory, processes, console);
        loader = new Loader(memory, processes);
        processor = new Processor(memory);
        turn = NOBODY;
    }

    public int burn(int k, int h) {
        if (k < 0 || k >= FLASH_HALFWORDS || h < 0 || h > 65535) {
            return REFUSED;
        }
        int old = memory.flash[k];
        memory.flash[k] = h;
        return old;
    }

    public int boot() {
        memory.clearRam(RAM_ADDRESS, RAM_WORDS);
        console.clear();
        kernel.now = 0;
        turn = NOBODY;
        left = 0;
        processCount = loader.loadAll();
        return processCount;
    }

    public int run(int n) {
        if (n < 0 || n > MOST_TICKS) {
            return REFUSED;
        }
        int steps = 0;
        for (int tick = 0; tick < n; tick++) {
            kernel.beginTick();
            if (giveTurn()) {
                BoardProcess process = processes[turn];
                int outcome = doInstruction(process);
                if (outcome >= CALLED) {
                    outcome = serve(process, outcome - CALLED);
                }
                endStep(process, outcome);
                steps++;
            }
        }
        return steps;
    }

    public boolean type(int v) {
        return kernel.takeInput(v);
    }

    public int sample(int v) {
        return kernel.takeSample(v);
    }

    public int outputs() {
        return console.outputCount;
    }

    public int output(int k) {
        return console.latestOutput(k);
    }

    public int now() {
        return kernel.now;
    }

    public int turn() {
        return turn;
    }

    public int state(int p) {
        BoardProcess process = find(p);
        return process == null ? NONE : process.state;
    }

    public int register(int p, int k) {
        BoardProcess process = find(p);
        return process == null ? 0 : process.registerValue(k);
    }

    public int word(int k) {
        return k < 0 || k >= RAM_WORDS ? 0 : memory.ram[k];
    }

    public int block(int p) {
        BoardProcess process = find(p);
        return process == null ? NONE : process.blockAddress;
    }

    public int open(int p) {
        BoardProcess process = find(p);
        return process == null ? NONE : process.openWords;
    }

    public int grant(int p, int d) {
        BoardProcess process = find(p);
        if (process == null || d < 0 || d >= DRIVERS || !process.notes.hasGrant(d)) {
            return NONE;
        }
        return process.notes.grants[d];
    }

    public int queued(int p) {
        BoardProcess process = find(p);
        return process == null ? NONE : process.notes.upcalls.count;
    }

    public int fault(int p) {
        BoardProcess process = find(p);
        return process == null ? NONE : process.latestFault;
    }

    public int faults(int p) {
        BoardProcess process = find(p);
        return process == null ? NONE : process.faultCount;
    }

    public boolean restart(int p) {
        BoardProcess process = find(p);
        if (process == null) {
            return false;
        }
        process.begin();
        return true;
    }

    public boolean stop(int p) {
        BoardProcess process = find(p);
        if (process == null || process.state == STOPPED) {
            return false;
        }
        process.halt();
        return true;
    }

    private BoardProcess find(int p) {
        return p < 0 || p >= processCount ? null : processes[p];
    }

    /** Whether a process has the turn for this tick; a new one gets it where that is due. */
    private boolean giveTurn() {
        if (turn != NOBODY && left > 0 && processes[turn].state == READY) {
            return true;
        }
        int candidate = turn;
        for (int tried = 0; tried < processCount; tried++) {
            candidate = candidate + 1 < processCount ? candidate + 1 : 0;
            if (processes[candidate].state == READY) {
                turn = candidate;
                left = SLICE;
                return true;
            }
        }
        return false;
    }

    private int doInstruction(BoardProcess process) {
        if (process.inFrame && !process.takeFrame()) {
            return FAULT_FRAME;
        }
        return processor.execute(process);
    }

    private int serve(BoardProcess process, int call) {
        // The frame carries the PC behind the CALL, so that a fault leaves PC at the CALL.
        if (!process.stackFrame(process.pc + 2)) {
            return FAULT_FRAME;
        }
        if (call == Kernel.YIELD) {
            kernel.waitForUpcall(process);
        } else {
            process.setFrameWord(0, kernel.answer(process, call));
        }
        return DONE;
    }

    private void endStep(BoardProcess process, int outcome) {
        int fault = outcome;
        if (fault == DONE) {
            left--;
            if (left == 0 && !process.inFrame && !process.stackFrame(process.pc)) {
                fault = FAULT_FRAME;
            }
        }
        if (fault != DONE) {
            left = 0;
            process.fail(fault);
        }
    }

    /** The flash and the RAM; an address outside of them reads as 0 and keeps nothing. */
    private static final class Memory {
        final int[] flash;
        final int[] ram;

        Memory() {
            flash = new int[FLASH_HALFWORDS];
            ram = new int[RAM_WORDS];
        }

        int halfword(int address) {
            int k = address >> 1;
            return k < 0 || k >= FLASH_HALFWORDS ? 0 : flash[k];
        }

        int flashWord(int address) {
            int k = address >> 1;
            return k < 0 || k + 1 >= FLASH_HALFWORDS ? 0 : flash[k] | flash[k + 1] << 16;
        }

        int ramWord(int address) {
            int k = address - RAM_ADDRESS >> 2;
            return k < 0 || k >= RAM_WORDS ? 0 : ram[k];
        }

        void setRamWord(int address, int value) {
            int k = address - RAM_ADDRESS >> 2;
            if (k >= 0 && k < RAM_WORDS) {
                ram[k] = value;
            }
        }

        void clearRam(int address, int words) {
            for (int k = 0; k < words; k++) {
                setRamWord(address + 4 * k, 0);
            }
        }
    }

    /** The upcalls of one process that wait, the oldest first. */
    private static final class UpcallQueue {
        private static final int MOST_UPCALLS = 4;

        final int[] drivers;
        final int[] firsts;
        final int[] seconds;
        int count;

        UpcallQueue() {
            drivers = new int[MOST_UPCALLS];
            firsts = new int[MOST_UPCALLS];
            seconds = new int[MOST_UPCALLS];
        }

        void enqueue(int driver, int first, int second) {
            if (count < MOST_UPCALLS) {
                drivers[count] = driver;
                firsts[count] = first;
                seconds[count] = second;
                count++;
            }
        }

        void removeOldest() {
            for (int k = 1; k < count; k++) {
                move(k, k - 1);
            }
            count = Math.max(count - 1, 0);
        }

        void removeDriver(int driver) {
            int kept = 0;
            for (int k = 0; k < count; k++) {
                if (drivers[k] != driver) {
                    move(k, kept);
                    kept++;
                }
            }
            count = kept;
        }

        private void move(int from, int to) {
            drivers[to] = drivers[from];
            firsts[to] = firsts[from];
            seconds[to] = seconds[from];
        }
    }

    /** What the kernel knows about a process, by driver. */
    private static final class Notes {
        /** No grant lies at address 0, so 0 stands for none. */
        private static final int NO_GRANT = 0;
        private static final int GRANT_WORDS = 2;

        final int[] grants;
        final int[] functions;
        final int[] data;
        final int[] bufferAddresses;
        final int[] bufferWords;
        final UpcallQueue upcalls;
        int grantWords;

        Notes() {
            grants = new int[DRIVERS];
            functions = new int[DRIVERS];
            data = new int[DRIVERS];
            bufferAddresses = new int[DRIVERS];
            bufferWords = new int[DRIVERS];
            upcalls = new UpcallQueue();
        }

        boolean hasGrant(int driver) {
            return grants[driver] != NO_GRANT;
        }

        void clear() {
            for (int driver = 0; driver < DRIVERS; driver++) {
                grants[driver] = NO_GRANT;
                functions[driver] = 0;
                data[driver] = 0;
                bufferAddresses[driver] = 0;
                bufferWords[driver] = 0;
            }
            grantWords = 0;
            upcalls.count = 0;
        }

        /** Whether no buffer reaches behind the address. */
        boolean buffersEndBy(int end) {
            for (int driver = 0; driver < DRIVERS; driver++) {
                int words = bufferWords[driver];
                if (words > 0 && bufferAddresses[driver] + 4 * words > end) {
                    return false;
                }
            }
            return true;
        }
    }

    /** A process: where it lies, its registers, its state and the kernel's notes about it. */
    private static final class BoardProcess {
        private static final int FRAME_WORDS = 8;
        private static final int FRAME_BYTES = 32;
        private static final int FRAME_LR = 5;
        private static final int FRAME_PC = 6;
        private static final int FRAME_FLAGS = 7;
        private static final int FRAME_MARK = 1 << 24;
        private static final int FRAME_SHIFTED = 512;

        final Memory memory;
        final Notes notes;
        int codeStart;
        int codeEnd;
        int entry;
        int blockAddress;
        int blockWords;
        int keepWords;
        int openWords;
        int policy;

        /** r0 .. r7; in a frame r0 .. r3, LR, PC and FLAGS are the frame's words instead. */
        final int[] low;
        int sp;
        int lr;
        int pc;
        int flags;
        boolean inFrame;

        int state;
        int latestFault;
        int faultCount;
        int faultRestarts;

        BoardProcess(Memory board) {
            memory = board;
            notes = new Notes();
            low = new int[8];
            state = STOPPED;
        }

        void begin() {
            memory.clearRam(blockAddress, blockWords);
            for (int k = 0; k < low.length; k++) {
                low[k] = 0;
            }
            sp = blockAddress + 4 * keepWords;
            lr = 0;
            pc = entry;
            flags = 0;
            inFrame = false;
            loseNotes();
            state = READY;
        }

        void halt() {
            loseNotes();
            state = STOPPED;
        }

        private void loseNotes() {
            notes.clear();
            openWords = blockWords;
        }

        void forgetFaults() {
            latestFault = 0;
            faultCount = 0;
            faultRestarts = 0;
        }

        void fail(int number) {
            latestFault = number;
            faultCount++;
            if (faultRestarts < policy) {
                faultRestarts++;
                begin();
            } else {
                halt();
            }
        }

        int openWordsBefore(int grantWords) {
            // A subregion is a power of two words, so the mask rounds down to whole ones.
            return blockWords - grantWords & -(blockWords >> 3);
        }

        boolean areOpen(int address, int words) {
            // An address outside of the block wraps to an offset that is negative or too large.
            int offset = address - blockAddress;
            int end = 4 * openWords;
            return offset >= 0 && offset < end && words <= end - offset >> 2;
        }

        boolean isInCode(int address) {
            return address >= codeStart && address < codeEnd;
        }

        boolean mayLoad(int address) {
            return isInCode(address) || areOpen(address, 1);
        }

        int readWord(int address) {
            return isInCode(address) ? memory.flashWord(address) : memory.ramWord(address);
        }

        int frameWord(int k) {
            return memory.ramWord(sp + 4 * k);
        }

        void setFrameWord(int k, int value) {
            memory.setRamWord(sp + 4 * k, value);
        }

        boolean stackFrame(int resumeAt) {
            int frame = sp - FRAME_BYTES;
            int shifted = 0;
            if ((frame & 7) != 0) {
                frame -= 4;
                shifted = FRAME_SHIFTED;
            }
            if (!areOpen(frame, FRAME_WORDS)) {
                return false;
            }
            sp = frame;
            for (int k = 0; k < 4; k++) {
                setFrameWord(k, low[k]);
            }
            setFrameWord(4, 0);
            setFrameWord(FRAME_LR, lr);
            setFrameWord(FRAME_PC, resumeAt);
            setFrameWord(FRAME_FLAGS, (flags << 28) + FRAME_MARK + shifted);
            inFrame = true;
            return true;
        }

        boolean takeFrame() {
            if (!areOpen(sp, FRAME_WORDS)) {
                return false;
            }
            for (int k = 0; k < 4; k++) {
                low[k] = frameWord(k);
            }
            lr = frameWord(FRAME_LR);
            pc = frameWord(FRAME_PC) & -2;
            int last = frameWord(FRAME_FLAGS);
            flags = last >>> 28;
            sp += (last & FRAME_SHIFTED) == 0 ? FRAME_BYTES : FRAME_BYTES + 4;
            inFrame = false;
            return true;
        }

        int registerValue(int k) {
            if (k < 0 || k > 11) {
                return 0;
            }
            if (k < 8) {
                return inFrame && k < 4 ? frameWord(k) : low[k];
            }
            switch (k) {
                case 8:
                    return sp;
                case 9:
                    return inFrame ? frameWord(FRAME_LR) : lr;
                case 10:
                    return inFrame ? frameWord(FRAME_PC) : pc;
                default:
                    return inFrame ? frameWord(FRAME_FLAGS) >>> 28 : flags;
            }
        }
    }

    /** Finds the processes in the flash and gives them their blocks. */
    private static final class Loader {
        private static final int MAGIC = 21570;
        private static final int HEADER = 6;
        private static final int LEAST_TOTAL = 8;
        private static final int MOST_HEADERS = FLASH_HALFWORDS / LEAST_TOTAL;

        final Memory memory;
        final BoardProcess[] processes;
        int loaded;
        int usedWords;

        Loader(Memory board, BoardProcess[] places) {
            memory = board;
            processes = places;
        }

        int loadAll() {
            for (int p = 0; p < MOST_PROCESSES; p++) {
                processes[p].halt();
                processes[p].forgetFaults();
            }
            loaded = 0;
            usedWords = 0;
            int q = 0;
            for (int k = 0; k < MOST_HEADERS && isHeader(q); k++) {
                loadAt(q);
                q += memory.flash[q + 1];
            }
            return loaded;
        }

        private boolean isHeader(int q) {
            if (q + HEADER > FLASH_HALFWORDS || memory.flash[q] != MAGIC) {
                return false;
            }
            int total = memory.flash[q + 1];
            return total >= LEAST_TOTAL && (total & 1) == 0 && q + total <= FLASH_HALFWORDS;
        }

        private void loadAt(int q) {
            int[] flash = memory.flash;
            int total = flash[q + 1];
            int size = flash[q + 2];
            int keep = flash[q + 3];
            int entry = flash[q + 4];
            int policy = flash[q + 5];
            if (loaded >= MOST_PROCESSES || size > 2 || policy > 15) {
                return;
            }
            int words = 16 << size;
            if (keep < 8 || keep > words || entry < HEADER || entry >= total) {
                return;
            }
            int first = usedWords + words - 1 & -words;
            if (first + words > RAM_WORDS) {
                return;
            }
            BoardProcess process = processes[loaded];
            process.codeStart = 2 * q;
            process.codeEnd = 2 * (q + total);
            process.entry = 2 * (q + entry);
            process.blockAddress = RAM_ADDRESS + 4 * first;
            process.blockWords = words;
            process.keepWords = keep;
            process.policy = policy;
            process.begin();
            loaded++;
            usedWords = first + words;
        }
    }

    /** The inputs that wait and the latest outputs. */
    private static final class Console {
        private static final int MOST_INPUTS = 8;
        private static final int KEPT_OUTPUTS = 16;

        final int[] inputs;
        final int[] outputRing;
        int inputCount;
        int outputCount;

        Console() {
            inputs = new int[MOST_INPUTS];
            outputRing = new int[KEPT_OUTPUTS];
        }

        void clear() {
            inputCount = 0;
            outputCount = 0;
        }

        boolean addInput(int v) {
            if (inputCount >= MOST_INPUTS) {
                return false;
            }
            inputs[inputCount] = v;
            inputCount++;
            return true;
        }

        int removeInput() {
            int oldest = inputs[0];
            for (int k = 1; k < inputCount; k++) {
                inputs[k - 1] = inputs[k];
            }
            inputCount = Math.max(inputCount - 1, 0);
            return oldest;
        }

        void addOutput(int v) {
            outputRing[outputCount & KEPT_OUTPUTS - 1] = v;
            outputCount++;
        }

        int latestOutput(int k) {
            if (k < 0 || k >= KEPT_OUTPUTS || k >= outputCount) {
                return 0;
            }
            return outputRing[outputCount - 1 - k & KEPT_OUTPUTS - 1];
        }
    }

    /** The clock, the calls that processes make, and the drivers behind them. */
    private static final class Kernel {
        private static final int YIELD = 0;
        private static final int SUBSCRIBE = 1;
        private static final int ALLOW = 3;

        private static final int ACCEPTED = 0;
        private static final int UNKNOWN = -1;
        private static final int NO_DRIVER = -2;
        private static final int INVALID = -3;
        private static final int NO_ROOM = -4;
        private static final int BUSY = -5;

        private static final int LONGEST_ALARM = 1000;

        final Memory memory;
        final BoardProcess[] processes;
        final Console console;
        int now;

        Kernel(Memory board, BoardProcess[] places, Console terminal) {
            memory = board;
            processes = places;
            console = terminal;
        }

        void beginTick() {
            now++;
            for (int p = 0; p < MOST_PROCESSES; p++) {
                if (isPending(processes[p], ALARM)) {
                    ringIfDue(processes[p]);
                }
            }
        }

        boolean takeInput(int v) {
            for (int p = 0; p < MOST_PROCESSES; p++) {
                if (isPending(processes[p], CONSOLE)) {
                    receive(processes[p], v);
                    return true;
                }
            }
            return console.addInput(v);
        }

        int takeSample(int v) {
            int served = 0;
            for (int p = 0; p < MOST_PROCESSES; p++) {
                BoardProcess process = processes[p];
                if (isPending(process, SENSOR)) {
                    int grant = process.notes.grants[SENSOR];
                    int samples = memory.ramWord(grant + 4) + 1;
                    memory.setRamWord(grant, 0);
                    memory.setRamWord(grant + 4, samples);
                    upcall(process, SENSOR, v, samples);
                    served++;
                }
            }
            return served;
        }

        void waitForUpcall(BoardProcess process) {
            UpcallQueue upcalls = process.notes.upcalls;
            process.state = WAITS;
            if (upcalls.count > 0) {
                int driver = upcalls.drivers[0];
                int first = upcalls.firsts[0];
                int second = upcalls.seconds[0];
                upcalls.removeOldest();
                upcall(process, driver, first, second);
            }
        }

        int answer(BoardProcess process, int call) {
            // The frame's words may lie under a grant by now; the registers still hold r0 .. r2.
            int driver = process.low[0];
            int x = process.low[1];
            int y = process.low[2];
            if (call < SUBSCRIBE || call > ALLOW) {
                return UNKNOWN;
            }
            if (driver < 0 || driver >= DRIVERS) {
                return NO_DRIVER;
            }
            if (!process.notes.hasGrant(driver) && !makeGrant(process, driver)) {
                return NO_ROOM;
            }
            if (call == SUBSCRIBE) {
                return subscribe(process.notes, driver, x, y);
            }
            if (call == ALLOW) {
                return allow(process, driver, x, y);
            }
            if (x == 0) {
                return ACCEPTED;
            }
            switch (driver) {
                case ALARM:
                    return commandAlarm(process, x, y);
                case CONSOLE:
                    return commandConsole(process, x, y);
                default:
                    return commandSensor(process, x);
            }
        }

        private boolean makeGrant(BoardProcess process, int driver) {
            Notes notes = process.notes;
            int words = notes.grantWords + Notes.GRANT_WORDS;
            int open = process.openWordsBefore(words);
            if (open < process.keepWords || !notes.buffersEndBy(process.blockAddress + 4 * open)) {
                return false;
            }
            int address = process.blockAddress + 4 * (process.blockWords - words);
            process.openWords = open;
            notes.grantWords = words;
            notes.grants[driver] = address;
            memory.clearRam(address, Notes.GRANT_WORDS);
            return true;
        }

        private int subscribe(Notes notes, int driver, int function, int data) {
            notes.functions[driver] = function;
            notes.data[driver] = data;
            notes.upcalls.removeDriver(driver);
            return ACCEPTED;
        }

        private int allow(BoardProcess process, int driver, int address, int words) {
            boolean aligned = (address & 3) == 0;
            if (words < 0 || words > 0 && !(aligned && process.areOpen(address, words))) {
                return INVALID;
            }
            process.notes.bufferAddresses[driver] = address;
            process.notes.bufferWords[driver] = words;
            return ACCEPTED;
        }

        private int commandAlarm(BoardProcess process, int number, int ticks) {
            int grant = process.notes.grants[ALARM];
            switch (number) {
                case 1:
                    return setAlarm(grant, ticks);
                case 2:
                    return cancelAlarm(grant);
                case 3:
                    return now;
                default:
                    return UNKNOWN;
            }
        }

        private int setAlarm(int grant, int ticks) {
            if (ticks < 1 || ticks > LONGEST_ALARM) {
                return INVALID;
            }
            memory.setRamWord(grant, 1);
            memory.setRamWord(grant + 4, now + ticks);
            return ACCEPTED;
        }

        private int cancelAlarm(int grant) {
            int pending = memory.ramWord(grant);
            memory.setRamWord(grant, 0);
            return pending;
        }

        private int commandConsole(BoardProcess process, int number, int words) {
            switch (number) {
                case 1:
                    return words < 0 ? INVALID : putOut(process, words);
                case 2:
                    if (isPending(process, CONSOLE)) {
                        return BUSY;
                    }
                    if (console.inputCount > 0) {
                        receive(process, console.removeInput());
                    } else {
                        memory.setRamWord(process.notes.grants[CONSOLE], 1);
                    }
                    return ACCEPTED;
                default:
                    return UNKNOWN;
            }
        }

        private int putOut(BoardProcess process, int words) {
            int count = Math.min(words, process.notes.bufferWords[CONSOLE]);
            int from = process.notes.bufferAddresses[CONSOLE];
            for (int k = 0; k < count; k++) {
                console.addOutput(memory.ramWord(from + 4 * k));
            }
            int total = process.notes.grants[CONSOLE] + 4;
            memory.setRamWord(total, memory.ramWord(total) + count);
            upcall(process, CONSOLE, count, 0);
            return ACCEPTED;
        }

        private int commandSensor(BoardProcess process, int number) {
            if (number != 1) {
                return UNKNOWN;
            }
            if (isPending(process, SENSOR)) {
                return BUSY;
            }
            memory.setRamWord(process.notes.grants[SENSOR], 1);
            return ACCEPTED;
        }

        /** Whether the process has a grant for the driver whose word 0 is 1. */
        private boolean isPending(BoardProcess process, int driver) {
            return process.notes.hasGrant(driver)
                && memory.ramWord(process.notes.grants[driver]) == 1;
        }

        private void ringIfDue(BoardProcess process) {
            int grant = process.notes.grants[ALARM];
            int due = memory.ramWord(grant + 4);
            if (due <= now) {
                memory.setRamWord(grant, 0);
                upcall(process, ALARM, now, due);
            }
        }

        private void receive(BoardProcess process, int v) {
            if (process.notes.bufferWords[CONSOLE] > 0) {
                memory.setRamWord(process.notes.bufferAddresses[CONSOLE], v);
            }
            memory.setRamWord(process.notes.grants[CONSOLE], 0);
            upcall(process, CONSOLE, v, 1);
        }

        private void upcall(BoardProcess process, int driver, int first, int second) {
            Notes notes = process.notes;
            int function = notes.functions[driver];
            if (function == 0) {
                return;
            }
            if (process.state != WAITS) {
                notes.upcalls.enqueue(driver, first, second);
                return;
            }
            int frame = process.sp;
            int pcAt = frame + 4 * BoardProcess.FRAME_PC;
            memory.setRamWord(frame, first);
            memory.setRamWord(frame + 4, second);
            memory.setRamWord(frame + 8, driver);
            memory.setRamWord(frame + 12, notes.data[driver]);
            memory.setRamWord(frame + 4 * BoardProcess.FRAME_LR, memory.ramWord(pcAt) + 1);
            memory.setRamWord(pcAt, function & -2);
            process.state = READY;
        }
    }

    /** Does the instructions, on the registers of a process that is in no frame. */
    private static final class Processor {
        private static final int N = 8;
        private static final int Z = 4;
        private static final int C = 2;
        private static final int V = 1;
        private static final int LEFT = 0;
        private static final int RIGHT = 1;
        private static final int LINK = 14;
        private static final int NAMES_EXTRA = 256;
        private static final long UNSIGNED = 0xFFFFFFFFL;

        final Memory memory;
        /** Where PC goes if the instruction does not fault. */
        int next;

        Processor(Memory board) {
            memory = board;
        }

        /** Answers DONE, a fault's number, or CALLED and more; after the last two PC is unchanged. */
        int execute(BoardProcess process) {
            if (!process.isInCode(process.pc) || (process.pc & 1) != 0) {
                return FAULT_FETCH;
            }
            next = process.pc + 2;
            int outcome = dispatch(process, memory.halfword(process.pc));
            if (outcome == DONE) {
                process.pc = next;
            }
            return outcome;
        }

        private int dispatch(BoardProcess process, int h) {
            int t = h >> 8 & 7;
            int offset = 4 * (h & 255);
            switch (h >> 11) {
                case 0:
                case 1:
                case 2:
                    return shiftByNumber(process, h);
                case 3:
                    return addThree(process, h);
                case 4:
                case 5:
                case 6:
                case 7:
                    return withByte(process, h);
                case 8:
                    return h >> 10 == 16 ? combine(process, h) : jump(process, h);
                case 9:
                    return loadInto(process, t, (process.pc + 4 & -4) + offset);
                case 12:
                    return storeFrom(process, h & 7, process.low[h >> 3 & 7] + 4 * (h >> 6 & 31));
                case 13:
                    return loadInto(process, h & 7, process.low[h >> 3 & 7] + 4 * (h >> 6 & 31));
                case 18:
                    return storeFrom(process, t, process.sp + offset);
                case 19:
                    return loadInto(process, t, process.sp + offset);
                case 21:
                    process.low[t] = process.sp + offset;
                    return DONE;
                case 22:
                    return h >> 8 == 176 ? moveStack(process, h) : push(process, h);
                case 23:
                    return pop(process, h);
                case 26:
                case 27:
                    return branchIf(process, h);
                case 28:
                    next = process.pc + 4 + 2 * ((h & 2047) - ((h & 1024) << 1));
                    return DONE;
                default:
                    return FAULT_UNDEFINED;
            }
        }

        private int shiftByNumber(BoardProcess process, int h) {
            int kind = h >> 11;
            int count = h >> 6 & 31;
            if (kind != LEFT && count == 0) {
                count = 32;
            }
            process.low[h & 7] = shift(process, kind, process.low[h >> 3 & 7], count);
            return DONE;
        }

        private int addThree(BoardProcess process, int h) {
            int m = h >> 6 & 7;
            int x = process.low[h >> 3 & 7];
            int y = (h >> 10 & 1) == 0 ? process.low[m] : m;
            boolean minus = (h >> 9 & 1) == 1;
            process.low[h & 7] = minus ? add(process, x, ~y, 1) : add(process, x, y, 0);
            return DONE;
        }

        private int withByte(BoardProcess process, int h) {
            int t = h >> 8 & 7;
            int x = process.low[t];
            int b = h & 255;
            switch (h >> 11) {
                case 4:
                    process.low[t] = b;
                    setSigns(process, b);
                    break;
                case 5:
                    add(process, x, ~b, 1);
                    break;
                case 6:
                    process.low[t] = add(process, x, b, 0);
                    break;
                default:
                    process.low[t] = add(process, x, ~b, 1);
                    break;
            }
            return DONE;
        }

        private int combine(BoardProcess process, int h) {
            int d = h & 7;
            int kind = h >> 6 & 15;
            int x = process.low[d];
            int y = process.low[h >> 3 & 7];
            int carry = process.flags >> 1 & 1;
            int result;
            switch (kind) {
                case 2:
                case 3:
                case 4:
                    result = shift(process, kind - 2, x, y & 255);
                    break;
                case 5:
                    result = add(process, x, y, carry);
                    break;
                case 6:
                    result = add(process, x, ~y, carry);
                    break;
                case 7:
                    result = rotate(process, x, y & 255);
                    break;
                case 9:
                    result = add(process, 0, ~y, 1);
                    break;
                case 10:
                    result = add(process, x, ~y, 1);
                    break;
                case 11:
                    result = add(process, x, y, 0);
                    break;
                default:
                    result = bitwise(kind, x, y);
                    setSigns(process, result);
                    break;
            }
            if (kind != 8 && kind != 10 && kind != 11) {
                process.low[d] = result;
            }
            return DONE;
        }

        private int bitwise(int kind, int x, int y) {
            switch (kind) {
                case 1:
                    return x ^ y;
                case 12:
                    return x | y;
                case 13:
                    return x * y;
                case 14:
                    return x & ~y;
                case 15:
                    return ~y;
                default:
                    return x & y;
            }
        }

        private int jump(BoardProcess process, int h) {
            int kind = h >> 7;
            int r = h >> 3 & 15;
            if (kind != 142 && kind != 143 || (h & 7) != 0 || r > 7 && r != LINK) {
                return FAULT_UNDEFINED;
            }
            int target = r == LINK ? process.lr : process.low[r & 7];
            if ((target & 1) == 0) {
                return FAULT_EVEN;
            }
            next = target - 1;
            if (kind == 143) {
                process.lr = process.pc + 3;
            }
            return DONE;
        }

        private int loadInto(BoardProcess process, int register, int address) {
            if ((address & 3) != 0) {
                return FAULT_ALIGNMENT;
            }
            if (!process.mayLoad(address)) {
                return FAULT_ACCESS;
            }
            process.low[register] = process.readWord(address);
            return DONE;
        }

        private int storeFrom(BoardProcess process, int register, int address) {
            if ((address & 3) != 0) {
                return FAULT_ALIGNMENT;
            }
            if (!process.areOpen(address, 1)) {
                return FAULT_ACCESS;
            }
            memory.setRamWord(address, process.low[register]);
            return DONE;
        }

        private int moveStack(BoardProcess process, int h) {
            int bytes = 4 * (h & 127);
            process.sp += (h & 128) == 0 ? bytes : -bytes;
            return DONE;
        }

        private int push(BoardProcess process, int h) {
            if (h >> 9 != 90) {
                return FAULT_UNDEFINED;
            }
            int words = Integer.bitCount(h & 511);
            int first = process.sp - 4 * words;
            if (words > 0 && !process.areOpen(first, words)) {
                return FAULT_ACCESS;
            }
            int address = first;
            for (int k = 0; k < 8; k++) {
                if ((h >> k & 1) == 1) {
                    memory.setRamWord(address, process.low[k]);
                    address += 4;
                }
            }
            if ((h & NAMES_EXTRA) != 0) {
                memory.setRamWord(address, process.lr);
            }
            process.sp = first;
            return DONE;
        }

        private int pop(BoardProcess process, int h) {
            if (h >> 9 != 94) {
                return FAULT_UNDEFINED;
            }
            int words = Integer.bitCount(h & 511);
            for (int k = 0; k < words; k++) {
                if (!process.mayLoad(process.sp + 4 * k)) {
                    return FAULT_ACCESS;
                }
            }
            int end = process.sp + 4 * words;
            if ((h & NAMES_EXTRA) != 0) {
                int target = process.readWord(end - 4);
                if ((target & 1) == 0) {
                    return FAULT_EVEN;
                }
                next = target - 1;
            }
            int address = process.sp;
            for (int k = 0; k < 8; k++) {
                if ((h >> k & 1) == 1) {
                    process.low[k] = process.readWord(address);
                    address += 4;
                }
            }
            process.sp = end;
            return DONE;
        }

        private int branchIf(BoardProcess process, int h) {
            int condition = h >> 8 & 15;
            if (condition == 15) {
                return CALLED + (h & 255);
            }
            if (condition == 14) {
                return FAULT_UNDEFINED;
            }
            boolean wanted = (condition & 1) == 0;
            if (holds(process.flags, condition >> 1) == wanted) {
                next = process.pc + 4 + 2 * ((h & 255) - ((h & 128) << 1));
            }
            return DONE;
        }

        private boolean holds(int flags, int pair) {
            boolean zero = (flags & Z) != 0;
            boolean carry = (flags & C) != 0;
            boolean negative = (flags & N) != 0;
            boolean overflow = (flags & V) != 0;
            switch (pair) {
                case 0:
                    return zero;
                case 1:
                    return carry;
                case 2:
                    return negative;
                case 3:
                    return overflow;
                case 4:
                    return carry && !zero;
                case 5:
                    return negative == overflow;
                default:
                    return !zero && negative == overflow;
            }
        }

        private int shift(BoardProcess process, int kind, int x, int count) {
            int result = x;
            if (count > 0) {
                // 33 places leave nothing but the filling, so more need not be told apart.
                int places = Math.min(count, 33);
                long wide = kind == LEFT || kind == RIGHT ? x & UNSIGNED : x;
                // One bit of room beside the word catches the last bit shifted out.
                long shifted = kind == LEFT ? wide << places : wide << 1 >> places;
                result = (int) (kind == LEFT ? shifted : shifted >> 1);
                setCarry(process, (kind == LEFT ? shifted >> 32 & 1 : shifted & 1) == 1);
            }
            setSigns(process, result);
            return result;
        }

        private int rotate(BoardProcess process, int x, int count) {
            int places = count & 31;
            int result = places == 0 ? x : x >>> places | x << 32 - places;
            if (count > 0) {
                setCarry(process, result < 0);
            }
            setSigns(process, result);
            return result;
        }

        private int add(BoardProcess process, int x, int y, int carry) {
            long signed = (long) x + y + carry;
            long unsigned = (x & UNSIGNED) + (y & UNSIGNED) + carry;
            int result = (int) signed;
            process.flags = (unsigned > UNSIGNED ? C : 0) + (signed == result ? 0 : V);
            setSigns(process, result);
            return result;
        }

        private void setSigns(BoardProcess process, int result) {
            int signs = (result < 0 ? N : 0) + (result == 0 ? Z : 0);
            process.flags = process.flags & (C | V) | signs;
        }

        private void setCarry(BoardProcess process, boolean carry) {
            process.flags = carry ? process.flags | C : process.flags & ~C;
        }
    }
}
