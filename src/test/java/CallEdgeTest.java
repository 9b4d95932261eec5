/**
 * The edges of CALLS, of grants, buffers and subscriptions and of the ALARM, a sentence each, on both
 * sides: promises 15 and 16, and what others see of the calls.
 */
public final class CallEdgeTest {
    private static final int MIN = Integer.MIN_VALUE;
    private static final int MAX = Integer.MAX_VALUE;
    private static final int YIELD = Calls.YIELD;
    private static final int SUBSCRIBE = Calls.SUBSCRIBE;
    private static final int COMMAND = Calls.COMMAND;
    private static final int ALLOW = Calls.ALLOW;
    private static final int ALARM = Calls.ALARM;
    private static final int CONSOLE = Calls.CONSOLE;
    private static final int SENSOR = Calls.SENSOR;
    private static final int BLOCK = 4096;
    /** Open words by SIZE and number of grants. */
    private static final int[][] OPEN = {{16, 14, 12, 10}, {32, 28, 28, 24}, {64, 56, 56, 56}};

    public static void main(String[] args) {
        callsAre0To3();
        driversAre0To2();
        grantsLieBeforeTheOthers();
        aGrantIsMadeOnce();
        keepWordsStayOpen();
        noGrantNothingElse();
        bufferWordsStayOpen();
        emptyBuffersAreNoHindrance();
        allowOfEveryAddress();
        allowOfHugeCounts();
        aRefusedBufferStays();
        everyDriverHasItsBuffer();
        commandNumbers();
        alarmIs1To1000();
        aRefusedAlarmStays();
        alarmRingsWhenItIsDue();
        alarmAnswersWord0();
        alarmWithoutASubscription();
        aLaterAlarmReplaces();
        aStoppedAlarmIsSilent();
        theAnswerComesLast();
        Checks.close("CallEdgeTest");
    }

    private static int[] ask(int call, int r0, int r1, int r2) {
        return Calls.ask(call, r0, r1, r2);
    }

    private static Board first(String name, int[] ask, int answer) {
        return Calls.first(name, ask, answer);
    }

    private static Board ofSize(String name, int size, int keep, int[]... asks) {
        return new Board(name, Asm.process(size, keep, 0, Calls.code(asks)));
    }

    /** "Any other call: the answer is -1", whatever r0 is; no grant is made. */
    private static void callsAre0To3() {
        for (int call = 1; call < 256; call++) {
            Board x = first("call " + call, ask(call, ALARM, 0, 0), call < 4 ? 0 : -1);
            x.grant(0, ALARM, call < 4 ? 4216 : -1).open(0, call < 4 ? 28 : 32).pc(0, 20);
        }
        int[] numbers = {4, 5, 254, 255};
        for (int call : numbers) {
            first("call " + call, ask(call, 3, 1, 1), -1).registers(0, -1, 1, 1).open(0, 32);
            first("call " + call, ask(call, MIN, 1, 1), -1).registers(0, -1, 1, 1).open(0, 32);
        }
        // YIELD looks at no register, has no answer and makes no grant.
        Board x = Calls.board("YIELD", ask(YIELD, ALARM, 7, 8)).run(4).state(0, 1).registers(0, 0, 7, 8).grant(0, 0, -1);
        x = Calls.board("YIELD of 3", ask(YIELD, 3, 7, 8)).run(4).state(0, 1).registers(0, 3, 7, 8).open(0, 32);
    }

    /** "if r0 is no driver, the answer is -2" */
    private static void driversAre0To2() {
        int[] wrong = {-1, 3, 4, 255, 256, 65536, MIN, MIN + 1, MAX};
        for (int call = SUBSCRIBE; call <= ALLOW; call++) {
            for (int driver = 0; driver < 3; driver++) {
                first("driver " + driver, ask(call, driver, 0, 0), 0).grant(0, driver, 4216).open(0, 28);
            }
            for (int driver : wrong) {
                Board x = first("driver " + driver, ask(call, driver, 0, 0), -2).open(0, 32).words(30, 0, 0).queued(0, 0);
                x.grant(0, 0, -1).grant(0, 1, -1).grant(0, 2, -1);
            }
        }
    }

    /** "two words more just before its other grants (or at the end of the block), which become 0" */
    private static void grantsLieBeforeTheOthers() {
        int[][] orders = {{0, 1, 2}, {0, 2, 1}, {1, 0, 2}, {1, 2, 0}, {2, 0, 1}, {2, 1, 0}};
        for (int size = 0; size < 3; size++) {
            int words = 16 << size;
            for (int[] order : orders) {
                Board x = ofSize("order " + order[0] + order[1] + order[2], size, 8, ask(COMMAND, order[0], 0, 0),
                    ask(SUBSCRIBE, order[1], 0, 0), ask(ALLOW, order[2], 0, 0));
                for (int made = 1; made <= 3; made++) {
                    x.run(4).register(0, 0, 0).open(0, OPEN[size][made]);
                    for (int k = 0; k < 3; k++) {
                        x.grant(0, order[k], k < made ? BLOCK + 4 * words - 8 * (k + 1) : -1);
                    }
                }
            }
        }
        int[] store = {Asm.mov(7, 9), Asm.strSp(7, 7), Asm.strSp(7, 6), Asm.strSp(7, 5), Asm.strSp(7, 4)};
        int[] code = Asm.join(store, Asm.ask(Asm.COMMAND, 1, 0, 0), Asm.ask(Asm.COMMAND, 2, 0, 0));
        Board x = new Board("become 0", Asm.process(0, 8, 0, code)).run(8).words(11, 0, 9, 9, 9, 9);
        x.run(1).words(11, 0, 9, 9, 0, 0).run(3).words(11, 0, 9, 9, 0, 0).run(1).words(11, 0, 0, 0, 0, 0);
    }

    /** "if the process has no grant for the driver, one is made": a second call finds it as it is. */
    private static void aGrantIsMadeOnce() {
        for (int driver = 0; driver < 3; driver++) {
            Board x = Calls.board("once " + driver, ask(COMMAND, driver, driver == 1 ? 2 : 1, 9), ask(SUBSCRIBE, driver, 0, 0),
                ask(ALLOW, driver, 0, 0), ask(COMMAND, driver, 0, 0), ask(ALLOW, driver, 1, 1));
            x.run(4).word(30, 1);
            for (int k = 0; k < 4; k++) {
                x.run(driver == ALARM ? 2 : 4).grant(0, driver, 4216).open(0, 28).word(30, 1);
            }
        }
    }

    /** "if then fewer than KEEP words would be open ... no grant is made and the answer is -4" */
    private static void keepWordsStayOpen() {
        for (int size = 0; size < 3; size++) {
            for (int keep = 8; keep <= 16 << size; keep++) {
                Board x = ofSize("KEEP " + keep, size, keep, ask(COMMAND, 0, 0, 0), ask(ALLOW, 1, 0, 0), ask(SUBSCRIBE, 2, 0, 0));
                int made = 0;
                for (int driver = 0; driver < 3; driver++) {
                    boolean fits = OPEN[size][made + 1] >= keep;
                    made += fits ? 1 : 0;
                    x.run(4).register(0, 0, fits ? 0 : -4).open(0, OPEN[size][made]);
                    x.grant(0, driver, fits ? BLOCK + (64 << size) - 8 * made : -1);
                }
            }
        }
    }

    /** "no grant is made": the words stay, the call does nothing, and each further call tries anew. */
    private static void noGrantNothingElse() {
        int[] store = {Asm.mov(7, 9), Asm.strSp(7, 0), Asm.strSp(7, 1)};
        for (int call = SUBSCRIBE; call <= ALLOW; call++) {
            int[] code = Asm.join(store, Asm.ask(Asm.call(call), 2, 1, 0), Asm.ask(Asm.call(call), 2, 1, 0),
                new int[] {Asm.rest()});
            Board x = new Board("no grant for " + call, Asm.process(1, 30, 0, code)).run(7).register(0, 0, -4);
            x.words(30, 9, 9).open(0, 32).grant(0, 2, -1).queued(0, 0).sample(5, 0);
            x.run(4).register(0, 0, -4).words(30, 9, 9).open(0, 32).grant(0, 2, -1).sample(5, 0).faults(0, 0, 0);
        }
    }

    /** "or a word of a buffer not": a buffer of one word at every place, then two more grants. */
    private static void bufferWordsStayOpen() {
        for (int size = 0; size < 3; size++) {
            for (int driver = 0; driver < 3; driver++) {
                for (int k = 0; k < OPEN[size][1]; k++) {
                    int second = driver == 0 ? 1 : 0;
                    int third = driver == 2 ? 1 : 2;
                    Board x = ofSize("buffer at word " + k + " of " + driver, size, 8, ask(ALLOW, driver, BLOCK + 4 * k, 1),
                        ask(COMMAND, second, 0, 0), ask(COMMAND, third, 0, 0));
                    int made = 1;
                    x.run(4).register(0, 0, 0).open(0, OPEN[size][1]);
                    made += k < OPEN[size][2] ? 1 : 0;
                    x.run(4).register(0, 0, made == 2 ? 0 : -4).open(0, OPEN[size][made]);
                    boolean fits = k < OPEN[size][made + 1];
                    made += fits ? 1 : 0;
                    x.run(4).register(0, 0, fits ? 0 : -4).open(0, OPEN[size][made]);
                    x.grant(0, third, fits ? BLOCK + (64 << size) - 8 * made : -1);
                }
            }
        }
        for (int words = 10; words <= 12; words++) {
            Board x = ofSize("buffer of " + words, 0, 8, ask(ALLOW, 1, BLOCK, words), ask(ALLOW, 0, BLOCK, 1), ask(ALLOW, 2, 0, 0));
            x.run(12).register(0, 0, words == 10 ? 0 : -4).open(0, words == 10 ? 10 : 12);
        }
    }

    private static void emptyBuffersAreNoHindrance() {
        int[] places = {BLOCK + 52, BLOCK + 60, BLOCK + 64, 0, 3, -4, MIN, MAX};
        for (int address : places) {
            Board x = ofSize("empty at " + address, 0, 8, ask(ALLOW, 1, BLOCK + 52, 1), ask(COMMAND, 0, 0, 0),
                ask(ALLOW, 1, address, 0), ask(COMMAND, 0, 0, 0), ask(COMMAND, 2, 0, 0));
            x.run(4).register(0, 0, 0).run(4).register(0, 0, -4).grant(0, 0, -1).open(0, 14);
            x.run(4).register(0, 0, 0).run(4).register(0, 0, 0).open(0, 12).run(4).register(0, 0, 0).open(0, 10);
        }
    }

    /** "If r2 is less than 0, r1 is not a multiple of 4, or one of the words is not open, the answer is -3" */
    private static void allowOfEveryAddress() {
        for (int address = BLOCK - 8; address <= BLOCK + 68; address++) {
            for (int words = -1; words <= 16; words++) {
                boolean open = address >= BLOCK && address + 4 * words <= BLOCK + 4 * 14;
                boolean right = words == 0 || words > 0 && address % 4 == 0 && open;
                Board x = ofSize("ALLOW " + address + ", " + words, 0, 8, ask(ALLOW, 1, address, words), ask(COMMAND, 1, 1, 16));
                x.run(4).register(0, 0, right ? 0 : -3).grant(0, 1, BLOCK + 56).open(0, 14).queued(0, 0);
                x.run(4).register(0, 0, 0).outputs(right ? words : 0);
            }
        }
    }

    private static void allowOfHugeCounts() {
        int[] counts = {MIN, MIN + 1, -2, -1, 29, 1 << 28, (1 << 30) - 1, 1 << 30, (1 << 30) + 1, MAX - 1, MAX};
        int[] addresses = {BLOCK, BLOCK + 108, 0, -4, -8, MIN, MAX - 3};
        for (int words : counts) {
            for (int address : addresses) {
                first("ALLOW " + address + ", " + words, ask(ALLOW, 1, address, words), -3).open(0, 28).outputs(0);
            }
        }
        // One of the words is open, but not the one before or behind.
        first("from before", ask(ALLOW, 1, BLOCK - 4, 2), -3);
        first("to behind", ask(ALLOW, 1, BLOCK + 108, 2), -3);
        first("the last one", ask(ALLOW, 1, BLOCK + 108, 1), 0);
        first("all", ask(ALLOW, 1, BLOCK, 28), 0);
        first("its own code", ask(ALLOW, 1, 12, 1), -3);
    }

    /** "the answer is -3 and the buffer stays" */
    private static void aRefusedBufferStays() {
        int[][] refused = {{BLOCK, -1}, {BLOCK + 1, 1}, {BLOCK + 2, 3}, {BLOCK + 108, 2}, {BLOCK - 4, 1}, {0, 1}, {BLOCK, 29}};
        for (int[] each : refused) {
            Board x = Calls.board("stays", ask(ALLOW, 1, BLOCK + 8, 2), ask(ALLOW, 1, each[0], each[1]), ask(COMMAND, 1, 1, 9),
                ask(COMMAND, 1, 2, 0));
            x.run(8).register(0, 0, -3).run(4).outputs(2).run(4).type(66, true).word(2, 66).word(0, 0).word(1, 0);
            x = Calls.board("none stays none", ask(ALLOW, 1, each[0], each[1]), ask(COMMAND, 1, 1, 9));
            x.run(4).register(0, 0, -3).run(4).register(0, 0, 0).outputs(0);
        }
    }

    /** "the buffer of the process for the driver": those for other drivers are put out by no CONSOLE. */
    private static void everyDriverHasItsBuffer() {
        Board x = Calls.board("buffers", ask(ALLOW, 0, BLOCK, 3), ask(ALLOW, 2, BLOCK, 4), ask(COMMAND, 1, 1, 9),
            ask(ALLOW, 1, BLOCK, 2), ask(COMMAND, 1, 1, 9), ask(ALLOW, 0, BLOCK, 0), ask(COMMAND, 1, 1, 9),
            ask(ALLOW, 1, BLOCK, 0), ask(COMMAND, 1, 1, 9));
        x.run(12).outputs(0).run(8).outputs(2).run(8).outputs(4).run(8).outputs(4).register(0, 0, 0);
    }

    /** "by r1": 0 of any driver, 1 .. 3 of ALARM, 1 and 2 of CONSOLE, 1 of SENSOR; "All others: -1" */
    private static void commandNumbers() {
        int[] last = {3, 2, 1};
        int[] wrong = {-1, 255, 256, 65536, MIN, MAX};
        for (int driver = 0; driver < 3; driver++) {
            for (int number = 1; number <= 5; number++) {
                Board x = Calls.board(number + " of " + driver, ask(COMMAND, driver, number, 1)).run(4);
                int answer = number > last[driver] ? -1 : driver == ALARM && number == 3 ? 4 : 0;
                x.register(0, 0, answer).grant(0, driver, 4216);
                if (answer == -1) {
                    x.words(30, 0, 0).queued(0, 0).outputs(0);
                }
            }
            for (int number : wrong) {
                first(number + " of " + driver, ask(COMMAND, driver, number, 1), -1).words(30, 0, 0).outputs(0).queued(0, 0);
            }
            int[] any = {0, -1, MIN, MAX};
            for (int x : any) {
                first("0 of " + driver, ask(COMMAND, driver, 0, x), 0).words(30, 0, 0).queued(0, 0);
            }
        }
    }

    /** "ALARM 1: if x is not 1 .. 1000, -3; else word 0 becomes 1, word 1 NOW + x, answer 0" */
    private static void alarmIs1To1000() {
        int[] right = {1, 2, 255, 256, 999, 1000};
        for (int x : right) {
            first("alarm " + x, ask(COMMAND, ALARM, 1, x), 0).words(30, 1, 4 + x);
        }
        int[] wrong = {MIN, -1000, -1, 0, 1001, 1002, 65537, MAX};
        for (int x : wrong) {
            first("alarm " + x, ask(COMMAND, ALARM, 1, x), -3).words(30, 0, 0).grant(0, ALARM, 4216);
        }
    }

    private static void aRefusedAlarmStays() {
        Board x = Calls.board("refused", ask(SUBSCRIBE, ALARM, 13, 5), ask(COMMAND, ALARM, 1, 10), ask(COMMAND, ALARM, 1, 0),
            ask(COMMAND, ALARM, 1, 1001), ask(YIELD, 0, 0, 0));
        x.run(8).words(30, 1, 18).run(4).register(0, 0, -3).words(30, 1, 18).run(4).register(0, 0, -3).words(30, 1, 18);
        x.run(1).queued(0, 0).run(1).queued(0, 1).words(30, 0, 18);
    }

    /** "if word 0 is 1 and word 1 is not more than NOW, word 0 becomes 0; an upcall (NOW, word 1)" */
    private static void alarmRingsWhenItIsDue() {
        int[] waits = {5, 6, 100, 399, 400, 1000};
        for (int wait : waits) {
            Board x = Calls.board("due in " + wait, ask(SUBSCRIBE, ALARM, 13, 5), ask(COMMAND, ALARM, 1, wait), ask(YIELD, 0, 0, 0));
            x.run(12).state(0, 1).words(30, 1, 8 + wait);
            int left = wait - 5;
            while (left > 0) {
                x.run(Math.min(left, 400), 0);
                left -= Math.min(left, 400);
            }
            x.now(7 + wait).state(0, 1).words(30, 1, 8 + wait).queued(0, 0);
            x.run(1).now(8 + wait).words(30, 0, 8 + wait).registers(0, 0, 8 + wait, 0, 5).state(0, 0).lr(0, 37).pc(0, 14);
        }
        // One that does not wait: the upcall is put behind, the tick after the command at the earliest.
        for (int wait = 1; wait <= 3; wait++) {
            Board x = Calls.board("soon", ask(SUBSCRIBE, ALARM, 13, 5), ask(COMMAND, ALARM, 1, wait), ask(YIELD, 0, 0, 0));
            x.run(8 + wait - 1).queued(0, 0).words(30, 1, 8 + wait).run(1).queued(0, 1).words(30, 0, 8 + wait);
            x.run(4 - wait).queued(0, 0).registers(0, 8 + wait, 8 + wait, 0, 5);
        }
        // The alarms come first in a tick: the YIELD of the tick when it is due finds the upcall.
        Board x = Calls.board("same tick", ask(SUBSCRIBE, ALARM, 13, 5), ask(COMMAND, ALARM, 1, 4), ask(YIELD, 0, 0, 0));
        x.run(11).queued(0, 0).run(1).queued(0, 0).state(0, 0).registers(0, 12, 12, 0, 5);
    }

    /** "2: the answer is word 0, and word 0 becomes 0"; "3: the answer is NOW" */
    private static void alarmAnswersWord0() {
        Board x = Calls.board("cancel", ask(COMMAND, ALARM, 2, 0), ask(COMMAND, ALARM, 1, 6), ask(COMMAND, ALARM, 2, 0),
            ask(COMMAND, ALARM, 2, 0), ask(COMMAND, ALARM, 1, 2), ask(COMMAND, ALARM, 2, 0), ask(COMMAND, ALARM, 3, 0));
        x.run(4).register(0, 0, 0).words(30, 0, 0).run(4).words(30, 1, 14).run(4).register(0, 0, 1).words(30, 0, 14);
        x.run(4).register(0, 0, 0).words(30, 0, 14).run(4).words(30, 1, 22).run(4).register(0, 0, 0).words(30, 0, 22);
        x.run(4).register(0, 0, 28).words(30, 0, 22);
        x = Calls.board("cancelled ones are silent", ask(SUBSCRIBE, ALARM, 13, 5), ask(COMMAND, ALARM, 1, 6),
            ask(COMMAND, ALARM, 2, 0), ask(YIELD, 0, 0, 0));
        x.run(16).state(0, 1).run(100, 0).state(0, 1).queued(0, 0).words(30, 0, 14);
    }

    private static void alarmWithoutASubscription() {
        int[][] asks = {ask(SUBSCRIBE, ALARM, 0, 5), ask(SUBSCRIBE, SENSOR, 13, 5), ask(COMMAND, ALARM, 0, 0)};
        for (int[] first : asks) {
            Board x = Calls.board("no function", first, ask(COMMAND, ALARM, 1, 6), ask(YIELD, 0, 0, 0)).run(12);
            int grant = first[1] == SENSOR ? 28 : 30;
            x.state(0, 1).words(grant, 1, 14).run(1, 0).words(grant, 1, 14).run(1, 0).words(grant, 0, 14).state(0, 1);
            x.queued(0, 0).registers(0, 0, 0, 0, 0);
        }
    }

    private static void aLaterAlarmReplaces() {
        Board x = Calls.board("replaced", ask(SUBSCRIBE, ALARM, 13, 5), ask(COMMAND, ALARM, 1, 20), ask(COMMAND, ALARM, 1, 6),
            ask(YIELD, 0, 0, 0));
        x.run(12).words(30, 1, 18).run(5, 4).state(0, 1).run(1).state(0, 0).registers(0, 0, 18, 0, 5);
        x = Calls.board("put off", ask(SUBSCRIBE, ALARM, 13, 5), ask(COMMAND, ALARM, 1, 6), ask(COMMAND, ALARM, 1, 20),
            ask(YIELD, 0, 0, 0));
        x.run(31, 16).state(0, 1).run(1).state(0, 0).registers(0, 0, 32, 0, 5);
    }

    private static void aStoppedAlarmIsSilent() {
        Board x = Calls.board("stopped", ask(SUBSCRIBE, ALARM, 13, 5), ask(COMMAND, ALARM, 1, 20), ask(YIELD, 0, 0, 0));
        x.run(12).stop(0, true).words(30, 1, 28).run(30, 0).words(30, 1, 28).state(0, 2).queued(0, 0);
        x.restart(0, true).words(30, 0, 0).run(5).queued(0, 0);
    }

    /** "the answer becomes r0 of the frame, after everything else": the buffer's first word is that r0. */
    private static void theAnswerComesLast() {
        Board x = Calls.board("last", ask(ALLOW, CONSOLE, 4128, 1), ask(COMMAND, CONSOLE, 2, 0), ask(COMMAND, CONSOLE, 2, 0),
            ask(COMMAND, CONSOLE, 2, 0));
        x.type(70, true).run(8).register(0, 0, 0).word(8, 0).run(4).register(0, 0, 0).words(30, 1, 0);
        x.run(4).register(0, 0, -5).word(8, -5).type(71, true).register(0, 0, 71).word(8, 71);
        x = Calls.board("put out before", ask(ALLOW, CONSOLE, 4128, 1), ask(COMMAND, CONSOLE, 1, 1));
        x.run(8).outputs(1).output(0, 1).register(0, 0, 0);
    }
}
