/**
 * The edges of MEMORY and LOADING and of how a process STARTS, a sentence each, on both sides:
 * promises 1, 2, 3, 13 and 14.
 */
public final class LoadingEdgeTest {
    private static final int MIN = Integer.MIN_VALUE;
    private static final int MAX = Integer.MAX_VALUE;
    private static final int FLASH = 256;
    private static final int[] LOOP = {Asm.add(7, 1), Asm.branch(-3)};
    private static final int[] GOOD = Asm.process(0, 8, 0, LOOP);

    public static void main(String[] args) {
        aNewObjectIsAsBooted();
        theFlashHas256Halfwords();
        halfwordsAre16Bits();
        theRamHas128Words();
        wordsLieFrom4096On();
        halfwordsLieFrom0On();
        sixHalfwordsMustBeLeft();
        theFirstHalfwordIs21570();
        totalIsEightOrMore();
        totalIsEven();
        totalEndsInTheFlash();
        sizeIs0To2();
        keepIs8ToTheBlock();
        entryIs6ToTheEnd();
        policyIs0To15();
        fourAreLoadedAtMost();
        aBlockEndsInTheRam();
        aBlockBeginsAtAMultiple();
        loadingGoesOnBehindBoth();
        loadingEndsForGood();
        thirtyTwoHeaders();
        codeAndEntry();
        howItStarts();
        bootAnswersHowMany();
        bootClearsTheWholeRam();
        burningChangesTheCodeAlone();
        Checks.close("LoadingEdgeTest");
    }

    private static int[] with(int[] image, int k, int h) {
        int[] other = image.clone();
        other[k] = h;
        return other;
    }

    /** "All flash and RAM 0, no processes (as if booted)": no boot has been called here. */
    private static void aNewObjectIsAsBooted() {
        GrantKernel booted = new GrantKernel();
        booted.boot();
        new Look(new GrantKernel()).sameAs(new Look(booted), "new");
        GrantKernel x = new GrantKernel();
        for (int k = 0; k < FLASH; k++) {
            Checks.due("new: burn(" + k + ", 0)", x.burn(k, 0), 0);
        }
        Checks.due("new: turn()", x.turn(), -1);
        Checks.due("new: now()", x.now(), 0);
        Checks.due("new: state(0)", x.state(0), -1);
        Checks.due("new: sample(1)", x.sample(1), 0);
        Checks.due("new: run(3)", x.run(3), 0);
        Checks.due("new: now() behind it", x.now(), 3);
        Checks.due("new: turn() behind it", x.turn(), -1);
        for (int k = 0; k <= 8; k++) {
            Checks.due("new: type(" + k + ")", x.type(k), k < 8);
        }
        // What is burnt is no process before it is booted.
        for (int k = 0; k < GOOD.length; k++) {
            x.burn(k, GOOD[k]);
        }
        Checks.due("burnt: state(0)", x.state(0), -1);
        Checks.due("burnt: run(3)", x.run(3), 0);
        Checks.due("burnt: boot()", x.boot(), 1);
        Checks.due("burnt: now()", x.now(), 0);
    }

    /** "The FLASH is 256 halfwords": k of burn, and nothing is written where k is refused. */
    private static void theFlashHas256Halfwords() {
        Board x = new Board("k of burn");
        x.burn(0, 11, 0).burn(255, 12, 0);
        int[] wrong = {-1, 256, -256, 511, 65536, MIN, MAX};
        for (int k : wrong) {
            x.burn(k, 5, -1);
        }
        x.burn(0, 13, 11).burn(255, 14, 12);
        for (int k = 1; k < 255; k++) {
            x.burn(k, 0, 0);
        }
    }

    /** "halfwords (0 .. 65535)": h of burn, and the old one stays where h is refused. */
    private static void halfwordsAre16Bits() {
        Board x = new Board("h of burn");
        x.burn(9, 0, 0).burn(9, 65535, 0).burn(9, 65534, 65535).burn(9, 1, 65534);
        int[] wrong = {-1, 65536, -65536, MIN, MAX};
        for (int h : wrong) {
            x.burn(9, h, -1).burn(9, 1, 1);
        }
        x.burn(-1, -1, -1).burn(256, 65536, -1).burn(8, 0, 0).burn(10, 0, 0);
    }

    /** Two processes that fill the RAM, the first with 7 in its first word, the second in its last. */
    private static Board full() {
        return new Board("RAM", Asm.process(2, 8, 0, Asm.mov(5, 7), Asm.spDown(8), Asm.strSp(5, 0), Asm.YIELD),
            Asm.process(2, 64, 0, Asm.mov(5, 8), Asm.spDown(1), Asm.strSp(5, 0), Asm.YIELD));
    }

    /** "The RAM is 128 words": k of word. */
    private static void theRamHas128Words() {
        Board x = full();
        x.run(3).stop(0, true).run(3).word(0, 7).word(127, 8).word(1, 0).word(126, 0);
        int[] wrong = {-1, 128, 255, -127, -128, MIN, MAX};
        for (int k : wrong) {
            x.word(k, 0);
        }
    }

    /** "word k at the addresses 4096 + 4k": stores by address, looked at by number. */
    private static void wordsLieFrom4096On() {
        int[] words = {0, 1, 62, 63};
        for (int k : words) {
            int[] values = {4096 + 4 * k, 70 + k};
            Board x = Bench.before("word " + k, 0, values, Asm.str(1, 0, 0)).run(1);
            // The words 24 .. 31 held the frame between the first two slices.
            for (int j = 0; j < 128; j = j == 23 ? 32 : j + 1) {
                x.word(j, j == k ? 70 + k : 0);
            }
        }
    }

    /** "halfword k at the addresses 2k and 2k + 1": loads by address. */
    private static void halfwordsLieFrom0On() {
        Board x = Bench.before("halfwords", 0, new int[] {0, 4, 8}, Asm.ldr(3, 0, 0), Asm.ldr(4, 1, 0),
            Asm.ldr(5, 2, 0));
        x.burn(0, 1, 21570).burn(1, 65535, 42).burn(2, 3, 2).burn(3, 32768, 32).run(3);
        x.registers(0, 0, 4, 8, 0xFFFF0001, 0x80000003, 6);
    }

    /** A header of TOTAL q at 0 that is no process, and behind it as much of a good one as the flash holds. */
    private static int[] behind(int q) {
        int[] image = new int[FLASH];
        int[] filler = {Asm.MAGIC, q, 0, 7, 6, 0};
        System.arraycopy(filler, 0, image, 0, 6);
        System.arraycopy(GOOD, 0, image, q, Math.min(GOOD.length, FLASH - q));
        return image;
    }

    /** "If fewer than 6 halfwords are left from q on ... loading ends." */
    private static void sixHalfwordsMustBeLeft() {
        new Board("8 are left", behind(248)).boot(1).pc(0, 2 * 254);
        int[] late = {250, 252, 254, 256};
        for (int q : late) {
            new Board(256 - q + " are left", behind(q)).boot(0).state(0, -1).run(1, 0);
        }
    }

    /** "or the first one is not 21570" */
    private static void theFirstHalfwordIs21570() {
        new Board("21570", GOOD, GOOD).boot(2);
        int[] wrong = {0, 21569, 21571, 65535, 21570 ^ 32768};
        for (int h : wrong) {
            new Board("first halfword " + h, with(GOOD, 0, h), GOOD).boot(0).block(0, -1);
            new Board("first halfword of the second " + h, GOOD, with(GOOD, 0, h), GOOD).boot(1).block(1, -1);
        }
    }

    /** "or TOTAL is less than 8": a good header lies where each TOTAL ends. */
    private static void totalIsEightOrMore() {
        for (int total = 0; total <= 12; total += 2) {
            int[] first = new int[total + 8];
            int[] header = {Asm.MAGIC, total, 0, 8, 6, 0};
            System.arraycopy(header, 0, first, 0, 6);
            System.arraycopy(GOOD, 0, first, Math.max(total, 6), total < 6 ? total + 2 : 8);
            new Board("TOTAL " + total, first).boot(total < 8 ? 0 : 2);
        }
    }

    /** "or odd" */
    private static void totalIsEven() {
        int[] odd = {1, 7, 9, 11, 255, 65535};
        for (int total : odd) {
            new Board("TOTAL " + total, with(GOOD, 1, total), GOOD).boot(0).state(0, -1);
            new Board("TOTAL of the second " + total, GOOD, with(GOOD, 1, total), GOOD).boot(1).state(1, -1);
        }
        int[] even = {8, 10, 254, 256};
        for (int total : even) {
            new Board("TOTAL " + total, with(GOOD, 1, total)).boot(1);
        }
    }

    /** "or q + TOTAL is more than 256, loading ends": from the first header, a middle one and the last one. */
    private static void totalEndsInTheFlash() {
        int[] places = {0, 8, 128, 248};
        for (int q : places) {
            int[] image = new int[FLASH];
            if (q > 0) {
                image = behind(q);
            }
            System.arraycopy(GOOD, 0, image, q, GOOD.length);
            image[q + 1] = FLASH - q;
            Board x = new Board("TOTAL up to the end from " + q, image).boot(1).pc(0, 2 * q + 12);
            x.burn(q + 1, FLASH - q + 2, FLASH - q).boot(0);
            x.burn(q + 1, 65534, FLASH - q + 2).boot(0).state(0, -1);
        }
    }

    /** Whether a first header with the halfword changed is a process; the one behind it is, always. */
    private static void isProcess(int[] image, int k, int h, boolean is) {
        String name = "halfword " + k + " = " + h + " of SIZE " + image[2];
        Board x = new Board(name, with(image, k, h), GOOD).boot(is ? 2 : 1);
        x.pc(is ? 1 : 0, 2 * (image.length + 6)).state(is ? 1 : 0, 0).state(is ? 2 : 1, -1);
    }

    /** "a process if SIZE is 0 .. 2" */
    private static void sizeIs0To2() {
        for (int size = 0; size < 3; size++) {
            isProcess(GOOD, 2, size, true);
            new Board("SIZE " + size, with(GOOD, 2, size)).open(0, 16 << size);
        }
        int[] wrong = {3, 4, 32, 256, 32768, 65535};
        for (int size : wrong) {
            isProcess(GOOD, 2, size, false);
        }
    }

    /** "KEEP 8 .. 16 * 2^SIZE" */
    private static void keepIs8ToTheBlock() {
        for (int size = 0; size < 3; size++) {
            int[] image = Asm.process(size, 8, 0, LOOP);
            int block = 16 << size;
            int[] right = {8, 9, block - 1, block};
            for (int keep : right) {
                isProcess(image, 3, keep, true);
                new Board("KEEP " + keep, with(image, 3, keep)).sp(0, 4096 + 4 * keep);
            }
            int[] wrong = {0, 7, block + 1, 2 * block + 1, 65535};
            for (int keep : wrong) {
                isProcess(image, 3, keep, false);
            }
        }
    }

    /** "ENTRY 6 .. TOTAL - 1" */
    private static void entryIs6ToTheEnd() {
        int[][] images = {GOOD, Asm.process(0, 8, 0, new int[10])};
        for (int[] image : images) {
            int total = image.length;
            int[] right = {6, 7, total - 1};
            for (int entry : right) {
                isProcess(image, 4, entry, true);
                new Board("ENTRY " + entry, with(image, 4, entry)).pc(0, 2 * entry);
            }
            int[] wrong = {0, 5, total, total + 6, 65535};
            for (int entry : wrong) {
                isProcess(image, 4, entry, false);
            }
        }
    }

    /** "POLICY 0 .. 15" */
    private static void policyIs0To15() {
        isProcess(GOOD, 5, 0, true);
        isProcess(GOOD, 5, 1, true);
        isProcess(GOOD, 5, 15, true);
        int[] wrong = {16, 17, 31, 256, 65535};
        for (int policy : wrong) {
            isProcess(GOOD, 5, policy, false);
        }
    }

    /** "fewer than four processes are loaded already": those that are no process do not count. */
    private static void fourAreLoadedAtMost() {
        int[] bad = Asm.process(3, 8, 0, LOOP);
        Board x = new Board("three", GOOD, GOOD, GOOD).boot(3).state(2, 0).state(3, -1);
        x = new Board("four", GOOD, GOOD, GOOD, GOOD).boot(4).state(3, 0).state(4, -1);
        x = new Board("five", GOOD, GOOD, GOOD, GOOD, GOOD).boot(4).state(3, 0).state(4, -1).block(4, -1);
        x.run(41).turn(0).register(3, 7, 5);
        x = new Board("others between", bad, GOOD, bad, GOOD, GOOD, bad, GOOD, GOOD).boot(4);
        x.pc(0, 2 * 14).pc(1, 2 * 30).pc(2, 2 * 38).pc(3, 2 * 54).state(4, -1);
    }

    private static Board ofSizes(int... sizes) {
        int[][] images = new int[sizes.length][];
        StringBuilder name = new StringBuilder("sizes");
        for (int k = 0; k < sizes.length; k++) {
            images[k] = Asm.process(sizes[k], 8, 0, LOOP);
            name.append(' ').append(sizes[k]);
        }
        return new Board(name.toString(), images);
    }

    /** "it fits if it ends in the RAM": one that does not takes no room from those behind it. */
    private static void aBlockEndsInTheRam() {
        ofSizes(2, 2).boot(2).block(1, 4096 + 256);
        ofSizes(2, 2, 0).boot(2).block(2, -1);
        ofSizes(2, 1, 1).boot(3).block(2, 4096 + 384);
        ofSizes(2, 1, 1, 0).boot(3).block(3, -1);
        ofSizes(2, 1, 0, 0).boot(4).block(3, 4096 + 448);
        ofSizes(2, 1, 0, 1).boot(3).block(2, 4096 + 384).block(3, -1);
        ofSizes(2, 1, 0, 1, 0).boot(4).block(3, 4096 + 448).pc(3, 2 * (32 + 6));
        ofSizes(0, 2, 2, 1).boot(2).block(1, 4096 + 256);
        ofSizes(1, 1, 2, 2, 0).boot(3).block(2, 4096 + 256).block(3, -1);
        ofSizes(1, 1, 1, 2, 1).boot(4).block(3, 4096 + 384).pc(3, 2 * (32 + 6));
    }

    /** "begins at the first word, at or behind the end of the block before, whose number is a multiple of B" */
    private static void aBlockBeginsAtAMultiple() {
        for (int code = 0; code < 81; code++) {
            int[] sizes = {code % 3, code / 3 % 3, code / 9 % 3, code / 27};
            Board x = ofSizes(sizes);
            int loaded = 0;
            int end = 0;
            for (int size : sizes) {
                int words = size == 0 ? 16 : size == 1 ? 32 : 64;
                int begin = end;
                while (begin % words != 0) {
                    begin++;
                }
                if (begin + words <= 128) {
                    x.block(loaded, 4096 + 4 * begin).open(loaded, words).sp(loaded, 4096 + 4 * begin + 32);
                    loaded++;
                    end = begin + words;
                }
            }
            x.boot(loaded).block(loaded, -1);
        }
    }

    /** "then loading goes on at q + TOTAL, whether it is or not" */
    private static void loadingGoesOnBehindBoth() {
        int[] longer = Asm.process(0, 8, 0, new int[20]);
        Board x = new Board("is", longer, GOOD).boot(2).pc(1, 2 * (26 + 6));
        x = new Board("is not", with(longer, 5, 16), GOOD).boot(1).pc(0, 2 * (26 + 6));
        // A header inside of another one's code is none.
        int[] within = longer.clone();
        System.arraycopy(GOOD, 0, within, 8, GOOD.length);
        x = new Board("within", within, GOOD).boot(2).pc(1, 2 * (26 + 6));
        x = new Board("within what is none", with(within, 3, 17), GOOD).boot(1).pc(0, 2 * (26 + 6));
    }

    /** "loading ends": nothing behind counts any more. */
    private static void loadingEndsForGood() {
        new Board("gap", GOOD, new int[2], GOOD).boot(1).state(1, -1);
        new Board("gap first", new int[8], GOOD).boot(0).state(0, -1);
        new Board("mended", with(GOOD, 1, 7), GOOD).boot(0).burn(1, 8, 7).boot(2).block(1, 4160);
    }

    /** As many headers as the flash can hold, the last one alone being a process, or the last four. */
    private static void thirtyTwoHeaders() {
        for (int good = 1; good <= 5; good++) {
            int[] image = new int[FLASH];
            for (int k = 0; k < 32; k++) {
                int[] each = k >= 32 - good ? GOOD : with(GOOD, 3, 7);
                System.arraycopy(each, 0, image, 8 * k, 8);
            }
            Board x = new Board("32 headers, " + good + " good", image).boot(Math.min(good, 4));
            x.pc(0, 2 * (FLASH - 8 * good) + 12).run(2).register(0, 7, 1);
        }
    }

    /** "The CODE of a process is the halfwords q .. q + TOTAL - 1; its ENTRY is the address 2 * (q + ENTRY)." */
    private static void codeAndEntry() {
        int[] last = with(Asm.process(0, 8, 0, Asm.rest(), Asm.mov(0, 9)), 4, 7);
        Board x = new Board("ENTRY at the last halfword", GOOD, last, GOOD);
        x.stop(0, true).stop(2, true).pc(1, 30).run(1).pc(1, 32).register(1, 0, 9).faults(1, 0, 0);
        x.run(1).faults(1, 1, 1).pc(1, 32);
        int[] first = Asm.process(0, 8, 0, Asm.branch(-8), Asm.branch(-10));
        x = new Board("the first halfword", GOOD, first).stop(0, true);
        x.burn(8, Asm.mov(3, 33), 21570).burn(9, Asm.branch(-3), 8).run(2).pc(1, 18).register(1, 3, 33);
        x.run(1).pc(1, 16).faults(1, 0, 0);
        x = new Board("before the first halfword", GOOD, with(first, 4, 7)).stop(0, true);
        x.run(1).pc(1, 14).faults(1, 0, 0).run(1).faults(1, 1, 1).pc(1, 14);
    }

    /** "A process STARTS with ...", when the board is booted and when it is restarted. */
    private static void howItStarts() {
        for (int keep = 8; keep <= 16; keep++) {
            int[] code = {Asm.mov(7, 17), Asm.blx(7), Asm.sub(0, 1), Asm.sub(1, 2), Asm.sub(2, 3), Asm.sub(3, 4),
                Asm.sub(4, 5), Asm.sub(5, 6), Asm.sub(6, 7), Asm.push(0xFF), Asm.rest()};
            Board x = new Board("start with KEEP " + keep, Asm.process(0, keep, 1, code));
            started(x, keep);
            x.run(9).registers(0, -1, -2, -3, -4, -5, -6, -7, 17, 4096 + 4 * keep, 17, 30, 8).restart(0, true);
            started(x, keep);
            // Nine steps, for below what is pushed there is no room for the frame of the tenth.
            x.burn(6, Asm.branch(1), Asm.mov(7, 17)).run(9).register(0, 7, 0).sp(0, 4064 + 4 * keep).restart(0, true);
            started(x, keep);
            x.run(9).boot(1);
            started(x, keep);
            x.burn(16, 0xFFFF, Asm.rest()).run(8).faults(0, 0, 0).run(1).faults(0, 2, 1);
            started(x, keep);
        }
    }

    private static void started(Board x, int keep) {
        x.registers(0, 0, 0, 0, 0, 0, 0, 0, 0, 4096 + 4 * keep, 0, 12, 0).state(0, 0).open(0, 16).queued(0, 0);
        x.grant(0, 0, -1).grant(0, 1, -1).grant(0, 2, -1);
        for (int k = 0; k < 16; k++) {
            x.word(k, 0);
        }
    }

    /** "Answers how many." */
    private static void bootAnswersHowMany() {
        Board x = new Board("boots");
        x.boot(0);
        for (int count = 1; count <= 4; count++) {
            x.burn(8 * count - 8, Asm.MAGIC, 0).burn(8 * count - 7, 8, 0).burn(8 * count - 5, 8, 0);
            x.burn(8 * count - 4, 6, 0).boot(count).boot(count).state(count - 1, 0).state(count, -1);
        }
        x.burn(0, 0, Asm.MAGIC).boot(0).state(0, -1).burn(0, Asm.MAGIC, 0).boot(4);
    }

    /** "RAM becomes all 0": also where no process has its block any more. */
    private static void bootClearsTheWholeRam() {
        Board x = full();
        x.run(3).stop(0, true).run(3).word(0, 7).word(127, 8).burn(0, 0, Asm.MAGIC).boot(0).word(0, 0).word(127, 0);
        x = new Board("middle", GOOD, Asm.process(2, 64, 0, Asm.mov(5, 8), Asm.push(0xFF), Asm.push(0xFF), Asm.rest()));
        x.stop(0, true).run(3).word(117, 8).word(125, 8).burn(8, 0, Asm.MAGIC).boot(1);
        for (int k = 0; k < 128; k++) {
            x.word(k, 0);
        }
    }

    /** "Processes go on with what they were loaded with, but their code is the flash as it is." */
    private static void burningChangesTheCodeAlone() {
        int[] image = Asm.process(1, 9, 1, Asm.add(7, 1), Asm.ldr(1, 0, 0), Asm.branch(-4), 0xFFFF);
        int[][] burns = {{0, 0}, {0, 65535}, {1, 8}, {1, 0}, {1, 256}, {2, 0}, {2, 2}, {3, 8}, {3, 32}, {4, 7}, {4, 9}, {5, 0}, {5, 15}};
        for (int[] each : burns) {
            Board x = new Board("burn " + each[0] + ", " + each[1], image).run(2);
            x.burn(each[0], each[1], image[each[0]]).block(0, 4096).open(0, 32).state(0, 0).sp(0, 4096 + 36).pc(0, 16);
            // The header is code as well: r1 gets its first two halfwords.
            x.run(3).register(0, 7, 2).register(0, 1, (each[0] == 0 ? each[1] : Asm.MAGIC) | (each[0] == 1 ? each[1] : 10) << 16);
            x.restart(0, true).sp(0, 4096 + 36).pc(0, 12).open(0, 32).block(0, 4096);
            // One restart because of faults, no more and no less; the last halfword is still in the code.
            x.burn(8, Asm.branch(-1), image[8]).run(4).faults(0, 2, 1).state(0, 0).pc(0, 12).run(4).faults(0, 2, 2).state(0, 2);
        }
        Board x = new Board("at once", GOOD).run(2).register(0, 7, 1).burn(6, Asm.add(7, 9), Asm.add(7, 1)).run(2);
        x.register(0, 7, 10).burn(7, 0xFFFF, Asm.branch(-3)).run(2).faults(0, 2, 1).register(0, 7, 19);
    }
}
