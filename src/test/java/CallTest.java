/** Calls, drivers, grants and upcalls: promises 5 to 8 and 15 to 17. */
public final class CallTest {
    private static final int MIN = Integer.MIN_VALUE;
    private static final int MAX = Integer.MAX_VALUE;
    private static final int YIELD = Calls.YIELD;
    private static final int SUBSCRIBE = Calls.SUBSCRIBE;
    private static final int COMMAND = Calls.COMMAND;
    private static final int ALLOW = Calls.ALLOW;
    private static final int ALARM = Calls.ALARM;
    /** A function that no test enters. */
    private static final int SOMEWHERE = 12;

    public static void main(String[] args) {
        unknownCalls();
        grantsOfEveryCall();
        noRoomForKeep();
        noRoomForBuffers();
        grantWordsBecomeZero();
        allow();
        allowIsKeptWhenRefused();
        commandZero();
        alarmCommands();
        alarmRings();
        alarmsOfTwo();
        consoleOutput();
        outputsAreLimited();
        outputOfTheFrame();
        consoleInput();
        inputsWait();
        receivedInTheCall();
        theLeastReceives();
        sensor();
        samplesOfThree();
        queueOfFour();
        subscribeDropsItsOwn();
        noFunctionNoUpcall();
        yieldDeliversTheOldest();
        deliveredFrame();
        returnFromAFunction();
        dataOfTheSubscription();
        wrongNumbers();
        Checks.close("CallTest");
    }

    private static int[] ask(int call, int r0, int r1, int r2) {
        return Calls.ask(call, r0, r1, r2);
    }

    private static int[] calls(int[]... asks) {
        return Calls.code(asks);
    }

    private static Board board(String name, int[]... asks) {
        return Calls.board(name, asks);
    }

    private static Board first(String name, int[] ask, int answer) {
        return Calls.first(name, ask, answer);
    }

    private static void unknownCalls() {
        int[] numbers = {4, 5, 128, 255};
        for (int number : numbers) {
            first("call " + number, ask(number, 0, 0, 0), -1).grant(0, 0, -1).open(0, 32);
            first("call " + number, ask(number, 9, 8, 7), -1).registers(0, -1, 8, 7);
        }
        int[] drivers = {3, -1, MIN, MAX, 256};
        for (int driver : drivers) {
            for (int call = SUBSCRIBE; call <= ALLOW; call++) {
                Board x = first("driver " + driver, ask(call, driver, 0, 0), -2).open(0, 32);
                x.grant(0, 0, -1).grant(0, 1, -1).grant(0, 2, -1);
            }
        }
    }

    private static void grantsOfEveryCall() {
        for (int driver = 0; driver < 3; driver++) {
            first("subscribe", ask(SUBSCRIBE, driver, 0, 0), 0).grant(0, driver, 4216).open(0, 28);
            first("command", ask(COMMAND, driver, 99, 0), -1).grant(0, driver, 4216).open(0, 28);
            first("allow", ask(ALLOW, driver, 1, 1), -3).grant(0, driver, 4216).open(0, 28);
        }
        Board x = board("one grant each", ask(ALLOW, 1, 0, 0), ask(COMMAND, 1, 0, 0), ask(SUBSCRIBE, 0, 0, 0),
            ask(SUBSCRIBE, 1, 0, 0), ask(SUBSCRIBE, 2, 0, 0));
        x.run(4).grant(0, 1, 4216).run(4).open(0, 28).run(4).grant(0, 0, 4208).open(0, 28).grant(0, 2, -1);
        x.run(4).grant(0, 1, 4216).run(4).grant(0, 2, 4200).open(0, 24);
    }

    private static void noRoomForKeep() {
        int[] code = calls(ask(COMMAND, 2, 1, 0), ask(COMMAND, 0, 3, 0), ask(COMMAND, 1, 2, 0), ask(COMMAND, 2, 1, 0),
            ask(SUBSCRIBE, 1, 1, 1), ask(ALLOW, 1, 0, 0), ask(COMMAND, 9, 0, 0));
        Board x = new Board("keep 12 of 16", Asm.process(0, 12, 0, code));
        x.run(4).register(0, 0, 0).open(0, 14).run(4).register(0, 0, 8).open(0, 12);
        x.run(4).register(0, 0, -4).grant(0, 1, -1).open(0, 12).type(1, true);
        x.run(4).register(0, 0, -5).run(4).register(0, 0, -4).run(4).register(0, 0, -4).run(4).register(0, 0, -2);
        int[][] most = {{16, 0}, {15, 0}, {14, 1}, {13, 1}, {12, 2}, {11, 2}, {10, 3}, {9, 3}};
        for (int[] row : most) {
            int[] three = calls(ask(COMMAND, 0, 0, 0), ask(COMMAND, 1, 0, 0), ask(COMMAND, 2, 0, 0));
            x = new Board("keep " + row[0], Asm.process(0, row[0], 0, three));
            for (int driver = 0; driver < 3; driver++) {
                boolean made = driver < row[1];
                x.run(4).register(0, 0, made ? 0 : -4).grant(0, driver, made ? 4152 - 8 * driver : -1);
            }
            x.open(0, 16 - 2 * row[1]);
        }
        // Of 64 words 56 stay open, however many grants there are.
        int[] three = calls(ask(COMMAND, 0, 0, 0), ask(COMMAND, 1, 0, 0), ask(COMMAND, 2, 0, 0));
        x = new Board("keep 56 of 64", Asm.process(2, 56, 0, three));
        x.run(12).register(0, 0, 0).open(0, 56).grant(0, 2, 4096 + 256 - 24);
        x = new Board("keep 57 of 64", Asm.process(2, 57, 0, three));
        x.run(12).register(0, 0, -4).open(0, 64).grant(0, 2, -1);
    }

    private static void noRoomForBuffers() {
        Board x = board("buffer before", ask(ALLOW, 1, 4204, 1), ask(COMMAND, 0, 0, 0), ask(COMMAND, 2, 0, 0),
            ask(ALLOW, 1, 4200, 0), ask(COMMAND, 2, 0, 0));
        x.run(4).register(0, 0, 0).run(4).register(0, 0, 0).open(0, 28).grant(0, 0, 4208);
        x.run(4).register(0, 0, -4).grant(0, 2, -1).open(0, 28);
        x.run(4).register(0, 0, 0).run(4).register(0, 0, 0).grant(0, 2, 4200).open(0, 24);
        x = board("buffer that ends before", ask(ALLOW, 1, 4096, 24), ask(COMMAND, 0, 0, 0), ask(COMMAND, 2, 0, 0));
        x.run(12).register(0, 0, 0).open(0, 24);
        x = board("buffer one too long", ask(ALLOW, 1, 4096, 25), ask(COMMAND, 0, 0, 0), ask(COMMAND, 2, 0, 0));
        x.run(12).register(0, 0, -4).open(0, 28);
        // A buffer of any driver counts.
        x = board("buffer of the alarm", ask(ALLOW, 0, 4192, 4), ask(COMMAND, 1, 0, 0), ask(COMMAND, 2, 0, 0));
        x.run(8).register(0, 0, 0).run(4).register(0, 0, -4).grant(0, 2, -1);
    }

    private static void grantWordsBecomeZero() {
        int[] code = Asm.join(new int[] {Asm.mov(7, 9), Asm.strSp(7, 15), Asm.strSp(7, 14), Asm.strSp(7, 13)},
            Asm.ask(Asm.COMMAND, 0, 0, 0), new int[] {Asm.rest()});
        Board x = new Board("zero", Asm.process(1, 16, 0, code));
        x.run(4).words(29, 9, 9, 9).run(4).words(29, 9, 0, 0);
        code = Asm.join(new int[] {Asm.mov(7, 9), Asm.strSp(7, 1), Asm.strSp(7, 0)}, Asm.ask(Asm.COMMAND, 0, 0, 0));
        new Board("zero in a small block", Asm.process(0, 14, 0, code)).run(3).words(14, 9, 9).run(4).words(14, 0, 0);
        x = new Board("no grant, no zero", Asm.process(1, 30, 0, code));
        x.run(7).register(0, 0, -4).words(30, 9, 9);
    }

    private static void allow() {
        first("none", ask(ALLOW, 1, 4096, 0), 0);
        first("none, odd", ask(ALLOW, 1, 3, 0), 0);
        first("none, afar", ask(ALLOW, 1, MIN, 0), 0);
        first("one", ask(ALLOW, 1, 4096, 1), 0);
        first("all open", ask(ALLOW, 1, 4096, 28), 0);
        first("one too many", ask(ALLOW, 1, 4096, 29), -3);
        first("last open", ask(ALLOW, 1, 4204, 1), 0);
        first("first closed", ask(ALLOW, 1, 4208, 1), -3);
        first("from the last open", ask(ALLOW, 1, 4204, 2), -3);
        first("before the block", ask(ALLOW, 1, 4092, 1), -3);
        first("from before", ask(ALLOW, 1, 4092, 2), -3);
        first("code", ask(ALLOW, 1, 0, 1), -3);
        int[] odd = {4097, 4098, 4099, MAX};
        for (int address : odd) {
            first("odd " + address, ask(ALLOW, 1, address, 1), -3);
        }
        int[] counts = {-1, MIN, MAX, 1 << 30, (1 << 30) + 1, 1 << 29, MIN + 1};
        for (int count : counts) {
            first("count " + count, ask(ALLOW, 1, 4096, count), -3);
            first("count from 0 " + count, ask(ALLOW, 1, 0, count), -3);
        }
        first("wrapping", ask(ALLOW, 1, -4, 2), -3);
        first("least address", ask(ALLOW, 1, MIN, 1), -3);
    }

    private static void allowIsKeptWhenRefused() {
        Board x = board("kept", ask(ALLOW, 1, 4100, 1), ask(ALLOW, 1, 4101, 2), ask(ALLOW, 1, 4096, -1),
            ask(ALLOW, 1, 4096, 99), ask(COMMAND, 1, 2, 0));
        x.run(20).type(55, true).word(0, 0).word(1, 55).word(2, 0);
        x = board("replaced", ask(ALLOW, 1, 4100, 1), ask(ALLOW, 1, 4104, 2), ask(COMMAND, 1, 2, 0));
        x.run(12).type(55, true).word(1, 0).word(2, 55).word(3, 0);
        x = board("taken back", ask(ALLOW, 1, 4100, 1), ask(ALLOW, 1, 4100, 0), ask(COMMAND, 1, 2, 0));
        x.run(12).type(55, true).word(1, 0).word(30, 0);
        x = board("another's", ask(ALLOW, 0, 4100, 1), ask(ALLOW, 2, 4104, 1), ask(COMMAND, 1, 2, 0));
        x.run(12).grant(0, 1, 4200).word(26, 1).type(55, true).word(1, 0).word(2, 0).word(26, 0);
    }

    private static void commandZero() {
        for (int driver = 0; driver < 3; driver++) {
            first("0 of " + driver, ask(COMMAND, driver, 0, MIN), 0).words(30, 0, 0);
            int[] unknown = {driver == 0 ? 4 : driver == 1 ? 3 : 2, 5, -1, MIN, MAX, 256};
            for (int number : unknown) {
                first(number + " of " + driver, ask(COMMAND, driver, number, 1), -1).words(30, 0, 0);
            }
        }
    }

    private static void alarmCommands() {
        int[] wrong = {0, -1, 1001, MIN, MAX};
        for (int ticks : wrong) {
            first("alarm " + ticks, ask(COMMAND, ALARM, 1, ticks), -3).words(30, 0, 0);
        }
        first("alarm 1", ask(COMMAND, ALARM, 1, 1), 0).words(30, 1, 5);
        first("alarm 1000", ask(COMMAND, ALARM, 1, 1000), 0).words(30, 1, 1004);
        first("cancel none", ask(COMMAND, ALARM, 2, 0), 0).words(30, 0, 0);
        first("time", ask(COMMAND, ALARM, 3, 0), 4);
        Board x = board("cancel", ask(COMMAND, ALARM, 1, 300), ask(COMMAND, ALARM, 2, 0), ask(COMMAND, ALARM, 2, 0),
            ask(COMMAND, ALARM, 3, 0), ask(COMMAND, ALARM, 1, 7), ask(COMMAND, ALARM, 1, 9),
            ask(COMMAND, ALARM, 1, 0));
        x.run(4).register(0, 0, 0).words(30, 1, 304).run(4).register(0, 0, 1).words(30, 0, 304);
        x.run(4).register(0, 0, 0).run(4).register(0, 0, 16).run(4).words(30, 1, 27).run(4).words(30, 1, 33);
        x.run(4).register(0, 0, -3).words(30, 1, 33).run(4).words(30, 1, 33).run(1).words(30, 0, 33).queued(0, 0);
    }

    private static void alarmRings() {
        Board x = board("waiting", ask(SUBSCRIBE, ALARM, 13, 77), ask(COMMAND, ALARM, 1, 20), ask(YIELD, 0, 0, 0));
        x.run(12).state(0, 1).words(30, 1, 28).run(15, 0).state(0, 1).now(27);
        x.run(1).state(0, 0).words(30, 0, 28).queued(0, 0).pc(0, 14).registers(0, 0, 28, 0, 77);
        x.run(1).pc(0, 16);
        x = board("running", ask(SUBSCRIBE, ALARM, 13, 77), ask(COMMAND, ALARM, 1, 1), ask(COMMAND, ALARM, 1, 3));
        x.run(8).queued(0, 0).words(30, 1, 9).run(1).queued(0, 1).words(30, 0, 9).run(3).words(30, 1, 15).queued(0, 1);
        x.run(2).queued(0, 1).run(1).queued(0, 2).words(30, 0, 15).run(50).queued(0, 2);
        // An alarm that is due counts from when it is looked at: the next tick.
        x = board("after boot", ask(SUBSCRIBE, ALARM, 13, 1), ask(COMMAND, ALARM, 1, 1), ask(YIELD, 0, 0, 0));
        x.run(12).state(0, 0).registers(0, 9, 9, 0, 1);
    }

    private static void alarmsOfTwo() {
        int[] code = calls(ask(SUBSCRIBE, ALARM, 13, 5), ask(COMMAND, ALARM, 1, 20), ask(YIELD, 0, 0, 0));
        int[] other = calls(ask(SUBSCRIBE, ALARM, 89, 6), ask(COMMAND, ALARM, 1, 20), ask(YIELD, 0, 0, 0));
        Board x = new Board("two alarms", Asm.process(0, 8, 0, code), Asm.process(0, 8, 0, other));
        x.pc(1, 88).run(24).state(0, 1).state(1, 1).words(14, 1, 28).words(30, 1, 38).turn(1);
        x.run(3, 0).state(0, 1).run(1).turn(0).state(0, 0).state(1, 1).registers(0, 0, 28, 0, 5);
        x.run(9).state(1, 1).turn(0).run(1).state(1, 0).turn(1).registers(1, 0, 38, 0, 6).words(30, 0, 38);
        // The alarm comes before the turn is looked at, so process 1 goes on with what is left.
        x = new Board("alarm before turn", Asm.process(0, 8, 0, code), Asm.process(0, 8, 0, other));
        x.run(24).stop(0, true).run(13, 0).state(1, 1).restart(0, true).run(1).turn(1).state(1, 0).pc(1, 90);
        x.registers(1, 0, 38, 0, 6);
    }

    private static void consoleOutput() {
        int[] store = {Asm.mov(3, 61), Asm.mov(4, 62), Asm.mov(5, 63), Asm.spDown(16), Asm.strSp(3, 0),
            Asm.strSp(4, 1), Asm.strSp(5, 2), Asm.spUp(16)};
        int[][] rows = {{0, 0}, {1, 1}, {2, 2}, {3, 3}, {4, 3}, {MAX, 3}};
        for (int[] row : rows) {
            int[] asks = calls(ask(ALLOW, 1, 4096, 3), ask(SUBSCRIBE, 1, 13, 8), ask(COMMAND, 1, 1, row[0]),
                ask(COMMAND, 1, 1, row[0]), ask(YIELD, 0, 0, 0));
            Board x = new Board("put out " + row[0], Asm.process(1, 16, 0, Asm.join(store, asks)));
            int k = row[1];
            x.run(20).register(0, 0, 0).outputs(k).queued(0, 1).words(30, 0, k);
            for (int j = 0; j < 4; j++) {
                x.output(j, j < k ? 60 + k - j : 0);
            }
            x.run(4).outputs(2 * k).queued(0, 2).words(30, 0, 2 * k).output(k, k > 0 ? 60 + k : 0);
            x.run(4).registers(0, k, 0, 1, 8).queued(0, 1).pc(0, 12);
        }
        first("less than none", ask(COMMAND, 1, 1, -1), -3).outputs(0).words(30, 0, 0);
        first("least", ask(COMMAND, 1, 1, MIN), -3).outputs(0);
        first("no buffer", ask(COMMAND, 1, 1, 5), 0).outputs(0).queued(0, 0).output(0, 0);
    }

    private static void outputsAreLimited() {
        int[] code = Asm.join(new int[] {Asm.mov(0, 1), Asm.addrSp(1, 0), Asm.sub(1, 64), Asm.mov(2, 1), Asm.ALLOW},
            new int[] {Asm.add(7, 1), Asm.sub(1, 1), Asm.addrSp(6, 0), Asm.sub(6, 64), Asm.str(7, 6, 0)},
            Asm.ask(Asm.COMMAND, 1, 1, 1), new int[] {Asm.branch(-11)});
        Board x = new Board("many", Asm.process(1, 16, 0, code));
        x.run(5 + 200).outputs(20);
        for (int k = -1; k < 20; k++) {
            x.output(k, k >= 0 && k < 16 ? 20 - k : 0);
        }
        x.output(MIN, 0).output(MAX, 0).stop(0, true).outputs(20).output(15, 5).restart(0, true).output(0, 20);
        x.boot(1).outputs(0).output(0, 0).run(5 + 150).outputs(15).output(14, 1).output(15, 0);
    }

    /** The buffer lies over the frame: what is put out are the frame's words, and the answer comes last. */
    private static void outputOfTheFrame() {
        Board x = board("frame out", ask(ALLOW, 1, 4128, 8), ask(COMMAND, 1, 1, 8), ask(COMMAND, 1, 1, 3));
        x.run(8).outputs(8).output(7, 1).output(6, 1).output(5, 8).output(4, 0).output(3, 0).output(1, 28);
        x.output(0, 1 << 24).output(2, 0).register(0, 0, 0);
        x.run(4).output(2, 1).output(1, 1).output(0, 3);
        x.type(9, true);
        x = board("answer last", ask(ALLOW, 1, 4128, 1), ask(COMMAND, 1, 2, 0));
        x.type(9, true).run(8).register(0, 0, 0).word(8, 0);
        x = board("input first", ask(ALLOW, 1, 4128, 1), ask(COMMAND, 1, 2, 0), ask(YIELD, 0, 0, 0));
        x.run(12).state(0, 1).type(9, true).register(0, 0, 9).state(0, 1);
    }

    private static void consoleInput() {
        Board x = board("input", ask(ALLOW, 1, 4100, 2), ask(SUBSCRIBE, 1, 15, 6), ask(COMMAND, 1, 2, 0),
            ask(COMMAND, 1, 2, 0), ask(YIELD, 0, 0, 0));
        x.run(12).register(0, 0, 0).words(30, 1, 0).run(4).register(0, 0, -5).words(30, 1, 0).run(4).state(0, 1);
        x.type(-7, true).state(0, 0).words(0, 0, -7, 0).words(30, 0, 0).registers(0, -7, 1, 1, 6).pc(0, 14);
        for (int k = 0; k < 8; k++) {
            x.type(k, true);
        }
        x.type(8, false).words(0, 0, -7, 0);
        x = board("ready", ask(SUBSCRIBE, 1, 15, 6), ask(COMMAND, 1, 2, 0));
        x.run(8).type(3, true).queued(0, 1).words(30, 0, 0).type(4, true).queued(0, 1).state(0, 0);
    }

    private static void inputsWait() {
        Board x = board("inputs", ask(ALLOW, 1, 4096, 1), ask(COMMAND, 1, 2, 0), ask(COMMAND, 1, 2, 0),
            ask(COMMAND, 1, 2, 0), ask(COMMAND, 1, 2, 0));
        x.type(1, true).type(2, true).run(8).word(0, 1).words(30, 0, 0).run(4).word(0, 2).words(30, 0, 0);
        x.run(4).word(0, 2).words(30, 1, 0).register(0, 0, 0).run(4).register(0, 0, -5);
        x.type(3, true).word(0, 3).words(30, 0, 0);
        x = board("eight", ask(ALLOW, 1, 4096, 1), ask(COMMAND, 1, 2, 0), ask(COMMAND, 1, 2, 0));
        for (int k = 1; k <= 8; k++) {
            x.type(k, true);
        }
        x.type(9, false).type(MIN, false).run(8).word(0, 1).type(10, true).type(11, false).run(4).word(0, 2);
        x.boot(1).type(20, true).run(8).word(0, 20);
    }

    private static void receivedInTheCall() {
        Board x = board("received", ask(SUBSCRIBE, 1, 15, 6), ask(ALLOW, 1, 4100, 4), ask(COMMAND, 1, 2, 0),
            ask(YIELD, 0, 0, 0));
        x.type(40, true).type(41, true).run(12).register(0, 0, 0).queued(0, 1).words(0, 0, 40, 0).words(30, 0, 0);
        x.run(4).queued(0, 0).registers(0, 40, 1, 1, 6).state(0, 0);
    }

    private static void theLeastReceives() {
        int[] code = calls(ask(ALLOW, 1, 4096 + 64, 1), ask(COMMAND, 1, 2, 0));
        int[] other = calls(ask(ALLOW, 1, 4096, 1), ask(COMMAND, 1, 2, 0));
        Board x = new Board("least", Asm.process(0, 8, 0, other), Asm.process(0, 8, 0, code));
        x.run(20).words(14, 1, 0).words(30, 1, 0).type(1, true).word(0, 1).word(16, 0).type(2, true).word(0, 1);
        x.word(16, 2).type(3, true).words(14, 0, 0).words(30, 0, 0);
        x = new Board("stopped", Asm.process(0, 8, 0, other), Asm.process(0, 8, 0, code));
        x.run(20).stop(0, true).type(1, true).word(0, 0).word(14, 1).word(16, 1);
    }

    private static void sensor() {
        Board x = board("sensor", ask(SUBSCRIBE, 2, 15, 9), ask(COMMAND, 2, 1, 0), ask(COMMAND, 2, 1, 0),
            ask(YIELD, 0, 0, 0), ask(COMMAND, 2, 1, 0));
        x.sample(1, 0).run(8).register(0, 0, 0).words(30, 1, 0).run(4).register(0, 0, -5).words(30, 1, 0).run(4);
        x.state(0, 1).sample(-9, 1).words(30, 0, 1).registers(0, -9, 1, 2, 9).pc(0, 14).state(0, 0).sample(2, 0);
        x = board("ready", ask(SUBSCRIBE, 2, 15, 9), ask(COMMAND, 2, 1, 0), ask(COMMAND, 2, 1, 0));
        x.run(8).sample(4, 1).queued(0, 1).words(30, 0, 1).sample(4, 0).run(4).sample(5, 1).queued(0, 2);
        x.words(30, 0, 2);
        x = board("no subscription", ask(COMMAND, 2, 1, 0), ask(YIELD, 0, 0, 0));
        x.run(8).state(0, 1).sample(4, 1).words(30, 0, 1).queued(0, 0).state(0, 1);
    }

    private static void samplesOfThree() {
        int[] asks = calls(ask(SUBSCRIBE, 2, 15, 9), ask(COMMAND, 2, 1, 0));
        int[] small = Asm.process(0, 8, 0, asks);
        Board x = new Board("three sensors", small, Asm.process(0, 8, 0, Asm.rest()), small);
        x.sample(1, 0).run(10).sample(1, 1).queued(0, 1).run(20).sample(2, 1).queued(2, 1).sample(3, 0);
        x = new Board("three sensors", small, Asm.process(0, 8, 0, Asm.rest()), small);
        x.run(30).sample(1, 2).queued(0, 1).queued(1, 0).queued(2, 1).words(14, 0, 1).words(46, 0, 1);
    }

    private static void queueOfFour() {
        int[][] asks = new int[9][];
        asks[0] = ask(SUBSCRIBE, 2, 15, 9);
        for (int k = 1; k < 9; k++) {
            asks[k] = ask(COMMAND, 2, 1, 0);
        }
        asks[6] = ask(YIELD, 0, 0, 0);
        Board x = board("four", asks);
        x.run(4);
        for (int k = 1; k <= 5; k++) {
            x.run(4).queued(0, k - 1 < 4 ? k - 1 : 4).sample(100 + k, 1).queued(0, Math.min(k, 4)).word(31, k);
        }
        x.run(4).queued(0, 3).registers(0, 101, 1, 2, 9);
    }

    private static void subscribeDropsItsOwn() {
        Board x = board("dropped", ask(SUBSCRIBE, 2, 15, 9), ask(SUBSCRIBE, 1, 17, 8), ask(COMMAND, 2, 1, 0),
            ask(COMMAND, 1, 1, 0), ask(COMMAND, 2, 1, 0), ask(COMMAND, 1, 1, 0), ask(SUBSCRIBE, 2, 19, 7),
            ask(SUBSCRIBE, 0, 0, 0), ask(YIELD, 0, 0, 0));
        x.run(12).sample(5, 1).queued(0, 1).run(4).queued(0, 2).run(4).sample(6, 1).queued(0, 3).run(4).queued(0, 4);
        x.run(4).queued(0, 2).register(0, 0, 0).run(4).queued(0, 2).run(4).queued(0, 1).registers(0, 0, 0, 1, 8);
        x.pc(0, 16);
        x = board("dropped by none", ask(SUBSCRIBE, 2, 15, 9), ask(COMMAND, 2, 1, 0), ask(SUBSCRIBE, 2, 0, 9));
        x.run(8).sample(5, 1).queued(0, 1).run(4).queued(0, 0);
    }

    private static void noFunctionNoUpcall() {
        Board x = board("none", ask(SUBSCRIBE, 2, 0, 9), ask(COMMAND, 2, 1, 0), ask(YIELD, 0, 0, 0));
        x.run(8).sample(1, 1).queued(0, 0).words(30, 0, 1).run(4).state(0, 1).sample(1, 0).state(0, 1);
        // The function 1 is one, though it enters address 0.
        x = board("one", ask(SUBSCRIBE, 2, 1, 9), ask(COMMAND, 2, 1, 0), ask(YIELD, 0, 0, 0));
        x.run(12).sample(1, 1).state(0, 0).pc(0, 0);
        x = board("less than none", ask(SUBSCRIBE, 2, -1, 9), ask(COMMAND, 2, 1, 0), ask(YIELD, 0, 0, 0));
        x.run(12).sample(1, 1).state(0, 0).pc(0, -2).run(1).faults(0, 1, 1);
    }

    private static void yieldDeliversTheOldest() {
        int[] handler = {Asm.branch(0), Asm.bx(14)};
        int[] asks = calls(ask(SUBSCRIBE, 2, 15, 9), ask(SUBSCRIBE, 1, 15, 8), ask(COMMAND, 1, 1, 0),
            ask(COMMAND, 2, 1, 0), ask(YIELD, 1, 2, 3), ask(YIELD, 0, 0, 0), ask(YIELD, 4, 5, 6));
        Board x = new Board("oldest", Asm.process(1, 16, 0, Asm.join(handler, asks)));
        x.run(17).sample(6, 1).queued(0, 2).run(4).queued(0, 1).registers(0, 0, 0, 1, 8).pc(0, 14).lr(0, 57);
        x.run(1).pc(0, 56).run(4).queued(0, 0).registers(0, 6, 1, 2, 9).lr(0, 65).state(0, 0);
        // With none left it waits, and its r0 stays as it was.
        x.run(1).run(4).state(0, 1).registers(0, 4, 5, 6, 9).pc(0, 72).lr(0, 65);
    }

    private static void deliveredFrame() {
        int[] code = Asm.join(new int[] {Asm.mov(4, 44), Asm.mov(3, 33)}, Asm.ask(Asm.SUBSCRIBE, 2, 41, 200),
            Asm.ask(Asm.COMMAND, 2, 1, 0), new int[] {Asm.YIELD, Asm.rest()});
        Board x = new Board("delivered", Asm.process(0, 12, 0, code));
        x.run(11).state(0, 1).words(4, 0, 1, 0, 33, 0, 0, 34, (4 << 28) + (1 << 24));
        x.sample(-5, 1).words(4, -5, 1, 2, 200, 0, 35, 40, (4 << 28) + (1 << 24)).register(0, 4, 44).flags(0, 4);
        x.sp(0, 4112).lr(0, 35).pc(0, 40).state(0, 0).queued(0, 0);
    }

    private static void returnFromAFunction() {
        // The function, at address 14, stores what it gets and returns behind the YIELD.
        int[] function = {Asm.branch(4), Asm.spDown(16), Asm.strSp(0, 0), Asm.strSp(3, 1), Asm.spUp(16), Asm.bx(14)};
        int[] code = Asm.join(function, Asm.ask(Asm.SUBSCRIBE, 2, 15, 200), Asm.ask(Asm.COMMAND, 2, 1, 0),
            new int[] {Asm.YIELD, Asm.mov(5, 5), Asm.rest()});
        Board x = new Board("return", Asm.process(1, 24, 0, code));
        x.run(10).state(0, 1).pc(0, 42).sample(99, 1).run(5).pc(0, 42).words(8, 99, 200).sp(0, 4192);
        x.run(1).register(0, 5, 5).state(0, 0).faults(0, 0, 0);
    }

    private static void dataOfTheSubscription() {
        int[] data = {0, -1, MIN, MAX, 12345678};
        for (int each : data) {
            Board x = board("data " + each, ask(SUBSCRIBE, 2, SOMEWHERE, each), ask(COMMAND, 2, 1, 0), ask(YIELD, 0, 0, 0));
            x.run(12).sample(each, 1).registers(0, each, 1, 2, each);
        }
    }

    private static void wrongNumbers() {
        Board x = board("numbers", ask(COMMAND, 0, 0, 0)).run(4);
        int[] none = {-1, 1, 4, MIN, MAX};
        for (int p : none) {
            x.grant(p, 0, -1).queued(p, -1).open(p, -1);
        }
        int[] drivers = {-1, 1, 2, 3, MIN, MAX};
        for (int d : drivers) {
            x.grant(0, d, -1);
        }
        x.grant(0, 0, 4216).queued(0, 0).open(0, 28);
    }
}
