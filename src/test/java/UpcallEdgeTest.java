/**
 * The edges of CONSOLE and SENSOR, of RECEIVED and of UPCALLS, a sentence each, on both sides:
 * promises 5, 6, 7, 8 and 17.
 */
public final class UpcallEdgeTest {
    private static final int MIN = Integer.MIN_VALUE;
    private static final int MAX = Integer.MAX_VALUE;
    private static final int YIELD = Calls.YIELD;
    private static final int SUBSCRIBE = Calls.SUBSCRIBE;
    private static final int COMMAND = Calls.COMMAND;
    private static final int ALLOW = Calls.ALLOW;
    private static final int CONSOLE = Calls.CONSOLE;
    private static final int SENSOR = Calls.SENSOR;
    private static final int BLOCK = 4096;

    public static void main(String[] args) {
        noLessThanNoneArePutOut();
        theFirstWordsOrAll();
        aLongBuffer();
        word1GrowsByHowMany();
        outputCountsFromTheLatest();
        sixteenOutputsAreKept();
        outputsSinceBoot();
        anInputIsAskedForOnce();
        eightInputsWait();
        theOldestInputIsReceived();
        receivedIntoTheFirstWord();
        theLeastNumberReceives();
        aSampleIsAskedForOnce();
        samplesOfNoneToFour();
        noFunctionNoUpcall();
        waitingOnesGetItAtOnce();
        fourUpcallsWait();
        aFullQueueOfAnyDriver();
        subscribingDropsTheDrivers();
        yieldDeliversTheOldest();
        theFrameOfAnUpcall();
        upcallsAreGoneWithTheProcess();
        notesAreGoneWithTheProcess();
        Checks.close("UpcallEdgeTest");
    }

    private static int[] ask(int call, int r0, int r1, int r2) {
        return Calls.ask(call, r0, r1, r2);
    }

    /** One process that first stores 51, 52, 53, 54 in its first words, in 16 steps, and then makes the calls. */
    private static Board withWords(String name, int[]... asks) {
        int nothing = Asm.spUp(0);
        // SP is up again when the slice ends, for there is no room for a frame below.
        int[] store = {Asm.spDown(16), Asm.mov(3, 51), Asm.strSp(3, 0), Asm.mov(3, 52), Asm.strSp(3, 1), Asm.mov(3, 53),
            Asm.strSp(3, 2), Asm.spUp(16), nothing, nothing, Asm.spDown(16), Asm.mov(3, 54), Asm.strSp(3, 3), Asm.spUp(16),
            Asm.mov(3, 0), nothing};
        return new Board(name, Asm.process(1, 16, 0, Asm.join(store, Calls.code(asks)))).run(16).words(0, 51, 52, 53, 54);
    }

    /** "CONSOLE 1: if x is less than 0, -3" */
    private static void noLessThanNoneArePutOut() {
        int[] less = {-1, -2, -1000, MIN, MIN + 1};
        for (int x : less) {
            Board b = withWords("put out " + x, ask(SUBSCRIBE, CONSOLE, 13, 5), ask(ALLOW, CONSOLE, BLOCK, 2),
                ask(COMMAND, CONSOLE, 1, x), ask(COMMAND, CONSOLE, 1, 0));
            b.run(12).register(0, 0, -3).outputs(0).output(0, 0).queued(0, 0).words(30, 0, 0);
            b.run(4).register(0, 0, 0).outputs(0).queued(0, 1).words(30, 0, 0);
        }
    }

    /** "else the first x words of the buffer, or all if it has fewer, are put out ... an upcall (k, 0)" */
    private static void theFirstWordsOrAll() {
        int[] numbers = {0, 1, 2, 3, 4, 5, 100, MAX - 1, MAX};
        for (int words = 0; words <= 4; words++) {
            for (int x : numbers) {
                int k = Math.min(words, x);
                Board b = withWords(x + " of " + words, ask(SUBSCRIBE, CONSOLE, 13, 5), ask(ALLOW, CONSOLE, BLOCK, words),
                    ask(COMMAND, CONSOLE, 1, x), ask(YIELD, 0, 0, 0));
                b.run(12).register(0, 0, 0).outputs(k).queued(0, 1).words(30, 0, k);
                for (int j = 0; j < 5; j++) {
                    b.output(j, j < k ? 50 + k - j : 0);
                }
                b.run(4).registers(0, k, 0, CONSOLE, 5).queued(0, 0).state(0, 0).words(30, 0, k);
            }
        }
    }

    /** More words than are kept: 20 of them, all put out, the latest 16 to be seen. */
    private static void aLongBuffer() {
        int[] store = new int[12];
        for (int r = 0; r < 8; r++) {
            store[r] = Asm.mov(r, 60 + r);
        }
        store[8] = Asm.spDown(8);
        store[9] = Asm.push(0xFF);
        store[10] = Asm.push(0xFF);
        store[11] = Asm.spUp(24);
        int[] calls = Calls.code(ask(ALLOW, CONSOLE, BLOCK, 20), ask(COMMAND, CONSOLE, 1, MAX), ask(COMMAND, CONSOLE, 1, 19));
        Board b = new Board("20 words", Asm.process(1, 28, 0, Asm.join(store, calls))).run(20).outputs(20).words(30, 0, 20);
        for (int k = 0; k < 17; k++) {
            b.output(k, k < 16 ? 60 + (15 - k) % 8 : 0);
        }
        b.run(4).outputs(39).words(30, 0, 39).output(0, 66).output(6, 60).output(7, 67).output(14, 60).output(15, 0);
    }

    private static void word1GrowsByHowMany() {
        Board b = withWords("grows", ask(ALLOW, CONSOLE, BLOCK, 3), ask(COMMAND, CONSOLE, 1, 2), ask(COMMAND, CONSOLE, 1, 9),
            ask(COMMAND, CONSOLE, 1, 0), ask(ALLOW, CONSOLE, 0, 0), ask(COMMAND, CONSOLE, 1, 9));
        b.run(8).words(30, 0, 2).run(4).words(30, 0, 5).run(4).words(30, 0, 5).run(8).words(30, 0, 5).outputs(5);
        b.output(0, 53).output(1, 52).output(2, 51).output(3, 52).output(4, 51).output(5, 0).queued(0, 0);
    }

    /** After 10 steps it puts out 1, 2, .., one with every 10 steps more. */
    private static Board counting(String name) {
        int[] code = Asm.join(Asm.ask(Asm.ALLOW, 1, 0, 0), new int[] {Asm.mov(0, 1), Asm.addrSp(1, 0), Asm.sub(1, 64),
            Asm.mov(2, 1), Asm.ALLOW, 0}, new int[] {Asm.mov(0, 1), Asm.mov(1, 1), Asm.mov(2, 1), Asm.add(7, 1),
            Asm.addrSp(6, 0), Asm.sub(6, 64), Asm.str(7, 6, 0), Asm.add(5, 0), Asm.COMMAND, Asm.branch(-11)});
        return new Board(name, Asm.process(1, 16, 0, code)).run(10).outputs(0);
    }

    /** "The k-th word that was put out, counted from the latest, which is 0; 0 if ... there were not so many" */
    private static void outputCountsFromTheLatest() {
        Board b = counting("outputs");
        int[] wrong = {-1, -2, 16, 17, 32, MIN, MAX};
        for (int count = 1; count <= 5; count++) {
            b.output(count - 1, 0).run(10).outputs(count).output(0, count).output(count - 1, 1).output(count, 0).output(15, 0);
            for (int k : wrong) {
                b.output(k, 0);
            }
        }
    }

    /** "0 if k is not 0 .. 15" */
    private static void sixteenOutputsAreKept() {
        for (int count = 14; count <= 40; count += count == 18 ? 11 : 1) {
            Board b = counting(count + " outputs").run(10 * count).outputs(count);
            for (int k = -2; k < 20; k++) {
                b.output(k, k >= 0 && k < 16 && k < count ? count - k : 0);
            }
        }
    }

    /** "How many words were put out since the board was booted." */
    private static void outputsSinceBoot() {
        Board b = counting("since boot").run(30).outputs(3).restart(0, true).outputs(3).output(0, 3).stop(0, true).outputs(3);
        b.output(2, 1).boot(1).outputs(0).output(0, 0).output(2, 0).run(20).outputs(1).output(0, 1).output(1, 0);
        // Of what was put out before, nothing comes to light again.
        b = counting("many before").run(200).outputs(20).output(15, 5).boot(1).run(10);
        for (int count = 0; count <= 16; count++) {
            b.outputs(count);
            for (int k = 0; k < 17; k++) {
                b.output(k, k < count && k < 16 ? count - k : 0);
            }
            b.run(10);
        }
    }

    /** "2: if word 0 is 1, -5 ... else word 0 becomes 1; answer 0" */
    private static void anInputIsAskedForOnce() {
        Board b = Calls.board("asked", ask(COMMAND, CONSOLE, 2, 0), ask(COMMAND, CONSOLE, 2, 0), ask(COMMAND, CONSOLE, 2, 0));
        b.run(4).register(0, 0, 0).words(30, 1, 0).run(4).register(0, 0, -5).words(30, 1, 0).type(5, true).words(30, 0, 0);
        b.run(4).register(0, 0, 0).words(30, 1, 0);
    }

    /** "refused with false if eight inputs wait already and no process receives it" */
    private static void eightInputsWait() {
        Board b = Calls.board("eight", ask(ALLOW, CONSOLE, BLOCK, 1), ask(COMMAND, CONSOLE, 2, 0), ask(COMMAND, CONSOLE, 2, 0));
        for (int k = 1; k <= 8; k++) {
            b.type(k, true);
        }
        b.type(9, false).type(MIN, false).type(0, false).run(8).word(0, 1).words(30, 0, 0).type(10, true).type(11, false);
        b.run(4).word(0, 2).type(12, true).type(13, false);
        // One that asked before receives the first; eight more wait.
        b = Calls.board("asked before", ask(COMMAND, CONSOLE, 2, 0)).run(4).type(0, true).words(30, 0, 0);
        for (int k = 1; k <= 8; k++) {
            b.type(k, true);
        }
        b.type(9, false).words(30, 0, 0).boot(1);
        for (int k = 1; k <= 8; k++) {
            b.type(k, true);
        }
        b.type(9, false);
    }

    /** "Else if inputs wait, the oldest one is RECEIVED": all eight, in their order, and none that was refused. */
    private static void theOldestInputIsReceived() {
        int[][] asks = new int[10][];
        asks[0] = ask(ALLOW, CONSOLE, BLOCK, 1);
        for (int k = 1; k < 10; k++) {
            asks[k] = ask(COMMAND, CONSOLE, 2, 0);
        }
        Board b = Calls.board("oldest", asks).run(4);
        for (int k = 1; k <= 8; k++) {
            b.type(-k, true);
        }
        b.type(99, false);
        for (int k = 1; k <= 8; k++) {
            b.run(4).register(0, 0, 0).word(0, -k).words(30, 0, 0);
        }
        b.run(4).register(0, 0, 0).word(0, -8).words(30, 1, 0).type(77, true).word(0, 77).words(30, 0, 0);
    }

    /** "the first word of its CONSOLE buffer, if it has one, becomes v" */
    private static void receivedIntoTheFirstWord() {
        int[] values = {0, 1, -1, MIN, MAX};
        for (int words = 0; words <= 2; words++) {
            for (int v : values) {
                for (int early = 0; early < 2; early++) {
                    Board b = Calls.board("received " + v, ask(SUBSCRIBE, CONSOLE, 13, 5), ask(ALLOW, CONSOLE, BLOCK + 8, words),
                        ask(COMMAND, CONSOLE, 2, 0), ask(YIELD, 0, 0, 0));
                    if (early == 1) {
                        b.type(v, true).run(12).queued(0, 1).register(0, 0, 0);
                    } else {
                        b.run(12).queued(0, 0).words(30, 1, 0).type(v, true).queued(0, 1);
                    }
                    b.words(0, 0, 0, words == 0 ? 0 : v, 0, 0).words(30, 0, 0).run(4).registers(0, v, 1, CONSOLE, 5);
                }
            }
        }
        // The buffers for other drivers stay as they are.
        Board b = Calls.board("others", ask(ALLOW, SENSOR, BLOCK, 1), ask(ALLOW, 0, BLOCK, 1), ask(COMMAND, CONSOLE, 2, 0));
        b.run(12).type(8, true).word(0, 0);
    }

    /** Four processes: bit p tells which of the two number p is. */
    private static int[][] four(int bits, int[] one, int[] zero) {
        int[][] images = new int[4][];
        for (int p = 0; p < 4; p++) {
            images[p] = (bits >> p & 1) == 1 ? one : zero;
        }
        return images;
    }

    /** "the process with the least number that has a grant for CONSOLE with word 0 = 1 receives it" */
    private static void theLeastNumberReceives() {
        int[] asking = Asm.process(0, 8, 0, Asm.join(Asm.ask(Asm.COMMAND, 1, 2, 0), new int[] {Asm.rest()}));
        int[] quiet = Asm.process(0, 8, 0, Asm.join(Asm.ask(Asm.COMMAND, 1, 0, 0), new int[] {Asm.rest()}));
        for (int asked = 0; asked < 16; asked++) {
            Board b = new Board("asked " + asked, four(asked, asking, quiet)).run(40);
            int left = asked;
            while (left > 0) {
                left &= left - 1;
                b.type(7, true);
                for (int p = 0; p < 4; p++) {
                    b.words(16 * p + 14, left >> p & 1, 0);
                }
            }
            for (int k = 0; k < 8; k++) {
                b.type(k, true);
            }
            b.type(8, false);
        }
    }

    /** "SENSOR 1: if word 0 is 1, -5; else word 0 becomes 1, answer 0" */
    private static void aSampleIsAskedForOnce() {
        Board b = Calls.board("sensor", ask(COMMAND, SENSOR, 1, 0), ask(COMMAND, SENSOR, 1, 0), ask(COMMAND, SENSOR, 1, 0));
        b.sample(3, 0).run(4).register(0, 0, 0).words(30, 1, 0).run(4).register(0, 0, -5).words(30, 1, 0).sample(3, 1);
        b.words(30, 0, 1).sample(3, 0).words(30, 0, 1).run(4).register(0, 0, 0).words(30, 1, 1).sample(3, 1).words(30, 0, 2);
    }

    /** "for each process that has a grant for SENSOR with word 0 = 1 ... Answers for how many." */
    private static void samplesOfNoneToFour() {
        int[] asking = Asm.process(0, 8, 0, Asm.join(Asm.ask(Asm.COMMAND, 2, 1, 0), new int[] {Asm.rest()}));
        int[] quiet = Asm.process(0, 8, 0, Asm.join(Asm.ask(Asm.COMMAND, 2, 0, 0), new int[] {Asm.rest()}));
        for (int asked = 0; asked < 16; asked++) {
            Board b = new Board("sampled " + asked, four(asked, asking, quiet)).sample(1, 0).run(40).sample(1, Integer.bitCount(asked));
            for (int p = 0; p < 4; p++) {
                b.words(16 * p + 14, 0, asked >> p & 1);
            }
            b.sample(1, 0);
        }
        new Board("no process").sample(1, 0).sample(MIN, 0);
    }

    /** "if it has no subscription with a function other than 0, nothing" */
    private static void noFunctionNoUpcall() {
        int[] functions = {0, 1, 2, -1, -2, MIN, MAX};
        for (int function : functions) {
            Board b = Calls.board("function " + function, ask(SUBSCRIBE, SENSOR, function, 5), ask(COMMAND, SENSOR, 1, 0),
                ask(COMMAND, CONSOLE, 1, 0), ask(YIELD, 0, 0, 0));
            b.run(12).queued(0, 0).sample(3, 1).queued(0, function == 0 ? 0 : 1).run(4).state(0, function == 0 ? 1 : 0);
            b.pc(0, function == 0 ? 44 : function & -2).words(30, 0, 1).lr(0, function == 0 ? 0 : 45);
        }
        Board b = Calls.board("none", ask(COMMAND, SENSOR, 1, 0), ask(YIELD, 0, 0, 0)).run(8).sample(3, 1).state(0, 1);
        b.words(30, 0, 1).queued(0, 0);
        b = Calls.board("taken back", ask(SUBSCRIBE, SENSOR, 13, 5), ask(COMMAND, SENSOR, 1, 0), ask(SUBSCRIBE, SENSOR, 0, 5),
            ask(YIELD, 0, 0, 0));
        b.run(12).sample(3, 1).queued(0, 0).words(30, 0, 1).run(4).state(0, 1);
    }

    /** "else if it WAITS, it is delivered at once; else it is put behind its other upcalls" */
    private static void waitingOnesGetItAtOnce() {
        for (int steps = 8; steps <= 12; steps++) {
            Board b = Calls.board("after " + steps, ask(SUBSCRIBE, SENSOR, 13, 5), ask(COMMAND, SENSOR, 1, 0), ask(YIELD, 1, 2, 3));
            b.run(steps).sample(8, 1).state(0, 0).queued(0, steps == 12 ? 0 : 1);
            b.run(12 - steps).queued(0, 0).registers(0, 8, 1, SENSOR, 5).pc(0, 12).lr(0, 37).state(0, 0);
        }
    }

    /** "but if four wait already, nothing": the fifth one is lost, and the four come in their order. */
    private static void fourUpcallsWait() {
        for (int count = 0; count <= 6; count++) {
            int[] code = Asm.join(new int[] {Asm.branch(0), Asm.bx(14)}, Asm.ask(Asm.SUBSCRIBE, 2, 15, 5));
            for (int k = 1; k <= count; k++) {
                code = Asm.join(code, Asm.ask(Asm.COMMAND, 2, 1, 0));
            }
            code = Asm.join(code, new int[] {Asm.YIELD, Asm.YIELD, Asm.YIELD, Asm.YIELD, Asm.YIELD, Asm.rest()});
            Board b = new Board(count + " upcalls", Asm.process(1, 16, 0, code)).run(5).queued(0, 0);
            for (int k = 1; k <= count; k++) {
                b.run(4).sample(100 + k, 1).queued(0, Math.min(k, 4)).word(31, k);
            }
            int waiting = Math.min(count, 4);
            for (int k = 1; k <= waiting; k++) {
                b.run(1).queued(0, waiting - k).registers(0, 100 + k, k, SENSOR, 5).state(0, 0).pc(0, 14).run(1);
            }
            b.run(1).queued(0, 0).state(0, 1);
        }
    }

    /** The queue is one for all drivers; room comes back with every YIELD. */
    private static void aFullQueueOfAnyDriver() {
        int[] handler = {Asm.branch(0), Asm.bx(14)};
        int[] put = Asm.ask(Asm.COMMAND, 1, 1, 0);
        int[] code = Asm.join(handler, Asm.ask(Asm.SUBSCRIBE, 1, 15, 8), Asm.ask(Asm.SUBSCRIBE, 2, 15, 9),
            Asm.ask(Asm.COMMAND, 2, 1, 0), put, put, put, put, put, new int[] {Asm.YIELD}, put, put,
            new int[] {Asm.YIELD, Asm.YIELD, Asm.YIELD, Asm.YIELD, Asm.YIELD});
        Board b = new Board("mixed", Asm.process(1, 16, 0, code)).run(13).queued(0, 0).run(4).queued(0, 1);
        b.run(8).queued(0, 3).sample(44, 1).queued(0, 4).run(4).queued(0, 4).run(4).queued(0, 4).outputs(0);
        // Delivered is the oldest one; then there is room for one more, and for no second one.
        b.run(1).queued(0, 3).registers(0, 0, 0, CONSOLE, 8).run(1).run(4).queued(0, 4).run(4).queued(0, 4);
        b.run(1).queued(0, 3).registers(0, 0, 0, CONSOLE, 8).run(2).queued(0, 2).registers(0, 0, 0, CONSOLE, 8);
        b.run(2).queued(0, 1).registers(0, 44, 1, SENSOR, 9).run(2).queued(0, 0).registers(0, 0, 0, CONSOLE, 8);
        b.run(2).state(0, 1).queued(0, 0);
    }

    /** "its upcalls from that driver that are still waiting are gone": of four in every mixture, in their order. */
    private static void subscribingDropsTheDrivers() {
        int[] handler = {Asm.branch(0), Asm.bx(14)};
        for (int mixture = 0; mixture < 16; mixture++) {
            int[] code = Asm.join(handler, Asm.ask(Asm.SUBSCRIBE, 1, 15, 8), Asm.ask(Asm.SUBSCRIBE, 2, 15, 9));
            for (int k = 0; k < 4; k++) {
                boolean console = (mixture >> k & 1) == 1;
                code = Asm.join(code, Asm.ask(Asm.COMMAND, console ? 1 : 2, 1, 0));
            }
            code = Asm.join(code, Asm.ask(Asm.SUBSCRIBE, 2, 15, 7), new int[] {Asm.YIELD, Asm.YIELD, Asm.YIELD, Asm.YIELD, Asm.YIELD});
            Board b = new Board("mixture " + mixture, Asm.process(1, 16, 0, code)).run(9);
            for (int k = 0; k < 4; k++) {
                b.run(4);
                if ((mixture >> k & 1) == 0) {
                    b.sample(k, 1);
                }
                b.queued(0, k + 1);
            }
            int left = Integer.bitCount(mixture);
            b.run(4).register(0, 0, 0).queued(0, left);
            while (left > 0) {
                left--;
                b.run(1).registers(0, 0, 0, CONSOLE, 8).queued(0, left).state(0, 0).run(1);
            }
            b.run(1).state(0, 1).queued(0, 0);
        }
    }

    /** "the process's oldest upcall is delivered, if there is one; else it WAITS" */
    private static void yieldDeliversTheOldest() {
        int[] handler = {Asm.branch(0), Asm.bx(14)};
        int[] code = Asm.join(handler, Asm.ask(Asm.SUBSCRIBE, 2, 15, 9), Asm.ask(Asm.COMMAND, 2, 1, 0),
            Asm.ask(Asm.COMMAND, 2, 1, 0), new int[] {Asm.YIELD, Asm.YIELD, Asm.YIELD, Asm.rest()});
        Board b = new Board("oldest", Asm.process(1, 16, 0, code)).run(9).sample(30, 1).run(4).sample(31, 1).queued(0, 2);
        b.run(1).registers(0, 30, 1, SENSOR, 9).queued(0, 1).pc(0, 14).lr(0, 43).run(1).pc(0, 42);
        b.run(1).registers(0, 31, 2, SENSOR, 9).queued(0, 0).pc(0, 14).lr(0, 45).run(1).pc(0, 44).state(0, 0);
        b.run(1).state(0, 1).registers(0, 31, 2, SENSOR, 9).pc(0, 46).lr(0, 45).queued(0, 0);
    }

    /** "DELIVERED: in its frame r0, r1, r2, r3 become ...; LR becomes the PC of the frame, and 1 more" */
    private static void theFrameOfAnUpcall() {
        for (int keep = 16; keep <= 17; keep++) {
            int[] code = Asm.join(new int[] {Asm.mov(3, 30), Asm.mov(7, 70)}, Asm.ask(Asm.SUBSCRIBE, 2, 15, 9),
                Asm.ask(Asm.COMMAND, 2, 1, 0), new int[] {Asm.YIELD, Asm.rest()});
            Board b = new Board("frame of KEEP " + keep, Asm.process(1, keep, 0, code)).run(11).state(0, 1);
            int last = (4 << 28) + (1 << 24) + (keep == 17 ? 512 : 0);
            b.sp(0, BLOCK + 32).words(8, 0, 1, 0, 30, 0, 0, 34, last);
            b.sample(MIN, 1).sp(0, BLOCK + 32).words(8, MIN, 1, SENSOR, 9, 0, 35, 14, last).flags(0, 4).register(0, 7, 70);
            b.registers(0, MIN, 1, SENSOR, 9).lr(0, 35).pc(0, 14).run(1).sp(0, BLOCK + 4 * keep).pc(0, 16);
        }
    }

    /** What waits is gone with a stop, a restart and a fault. */
    private static void upcallsAreGoneWithTheProcess() {
        for (int way = 0; way < 4; way++) {
            int[] code = Asm.join(Asm.ask(Asm.SUBSCRIBE, 2, 13, 9), Asm.ask(Asm.COMMAND, 2, 1, 0), new int[] {0xFFFF});
            Board b = new Board("gone " + way, Asm.process(1, 16, way == 3 ? 1 : 0, code)).run(8).sample(5, 1).queued(0, 1);
            if (way == 0) {
                b.stop(0, true);
            } else if (way == 1) {
                b.restart(0, true);
            } else {
                b.run(1).faults(0, 2, 1);
            }
            b.queued(0, 0).sample(5, 0).state(0, way % 2 == 0 ? 2 : 0).grant(0, 2, -1).restart(0, true).queued(0, 0);
        }
    }

    /** "its subscriptions, buffers, grants and upcalls are gone": it asks anew, but subscribes and allows nothing. */
    private static void notesAreGoneWithTheProcess() {
        for (int way = 0; way < 3; way++) {
            int[] code = Asm.join(new int[] {Asm.mov(0, 1), Asm.addrSp(1, 0), Asm.mov(2, 1), Asm.ALLOW},
                Asm.ask(Asm.SUBSCRIBE, 0, 13, 7), Asm.ask(Asm.SUBSCRIBE, 1, 13, 8), Asm.ask(Asm.SUBSCRIBE, 2, 13, 9),
                Asm.ask(Asm.COMMAND, 0, 1, 200), new int[] {0xFFFF}, Asm.ask(Asm.COMMAND, 0, 1, 16), Asm.ask(Asm.COMMAND, 1, 1, 1), Asm.ask(Asm.COMMAND, 1, 2, 0),
                Asm.ask(Asm.COMMAND, 2, 1, 0), new int[] {Asm.YIELD});
            Board b = new Board("notes " + way, Asm.process(1, 16, 1, code)).run(20).grant(0, 1, 4216).grant(0, 2, 4200);
            b.words(26, 0, 0, 1, 220);
            if (way == 0) {
                b.restart(0, true);
            } else if (way == 1) {
                b.stop(0, true).restart(0, true);
            } else {
                b.run(1).faults(0, 2, 1);
            }
            b.open(0, 32).words(26, 0, 0, 0, 0, 0, 0).grant(0, 0, -1).grant(0, 1, -1).grant(0, 2, -1);
            b.burn(6, Asm.branch(19), Asm.mov(0, 1)).run(18).state(0, 1).outputs(0).grant(0, 0, 4216).words(26, 1, 0, 1, 0, 1);
            b.type(5, true).sample(6, 1).run(5, 0).words(26, 0, 1, 0, 0, 0).words(16, 0, 0).state(0, 1).queued(0, 0);
        }
    }
}
