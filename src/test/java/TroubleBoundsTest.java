/** Boundary cases of 'TROUBLE' and STORE, and of the trouble tests (12. of the LOOP). */
public final class TroubleBoundsTest {
    private static final Check CHECK = new Check();
    private static final int DEBOUNCE = 0, FAULTY = 1, PENDING = 2, CONFIRMED = 3, HEALED = 4, MET = 5, SEEN = 6;

    public static void main(String[] args) {
        fourFails();
        debounceEnds();
        faultyUntilTheEnd();
        oldIsConfirmedAtOnce();
        oneFrame();
        frameTellsAllEight();
        metStaysPending();
        notSeenStaysPending();
        healedToForty();
        healedBelowThree();
        cyclesWrap();
        frameGoes();
        validCopies();
        greaterHead();
        headWraps();
        writtenCopy();
        wordsOfTrouble();
        frameOfStore();
        longOfStore();
        channelTests();
        slipTest();
        camTest();
        sameTest();
        trimTest();
        cutoffTest();
        watchTest();
        hotTest();
        allWordsOfTrouble();
        firstLoopOfALaterBoot();
        CHECK.end();
    }

    private static void constant(EngineControl x, int line, int v) {
        x.line(line, -10000, v, 30000, v);
    }

    /** AIR FAILS from LOOP 10 on: trouble 6 fails in each LOOP then. */
    private static EngineControl air() {
        EngineControl x = new EngineControl();
        x.pin(6, 0);
        x.key(true);
        Rig.loops(x, 9);
        return x;
    }

    // "DEBOUNCE is 32 more (127 at most); when it gets to 127 and it is not FAULTY: it is FAULTY, MET and PENDING"
    private static void fourFails() {
        EngineControl x = air();
        CHECK.same("COUNTER 90: neither", x.trouble(6, DEBOUNCE), 0);
        int[] due = {32, 64, 96, 127, 127};
        for (int i = 0; i < due.length; i++) {
            Rig.loops(x, 1);
            CHECK.same("fail " + i, x.trouble(6, DEBOUNCE), due[i]);
            int faulty = i >= 3 ? 1 : 0;
            CHECK.same("FAULTY", x.trouble(6, FAULTY), faulty);
            CHECK.same("MET", x.trouble(6, MET), faulty);
            CHECK.same("PENDING", x.trouble(6, PENDING), faulty);
            CHECK.same("CONFIRMED", x.trouble(6, CONFIRMED), 0);
            CHECK.same("a FRAME", x.frame(0), faulty == 1 ? 6 : EngineControl.NONE);
        }
    }

    // "DEBOUNCE is 4 less (-128 at least); at -128 it is not FAULTY, and SEEN"
    private static void debounceEnds() {
        EngineControl x = Rig.on();
        Rig.loops(x, 31);
        CHECK.same("-124", x.trouble(6, DEBOUNCE), -124);
        CHECK.same("not SEEN", x.trouble(6, SEEN), 0);
        Rig.loops(x, 1);
        CHECK.same("-128", x.trouble(6, DEBOUNCE), -128);
        CHECK.same("SEEN", x.trouble(6, SEEN), 1);
        Rig.loops(x, 1);
        CHECK.same("-128 at least", x.trouble(6, DEBOUNCE), -128);
    }

    private static void faultyUntilTheEnd() {
        EngineControl x = air();
        Rig.loops(x, 4);
        x.pin(6, 500);
        Rig.loops(x, 99);
        CHECK.same("it FAILS yet", x.trouble(6, DEBOUNCE), 127);
        Rig.loops(x, 63);
        CHECK.same("127 - 4 * 63", x.trouble(6, DEBOUNCE), -125);
        CHECK.same("FAULTY yet", x.trouble(6, FAULTY), 1);
        CHECK.same("not SEEN", x.trouble(6, SEEN), 0);
        Rig.loops(x, 1);
        CHECK.same("-128", x.trouble(6, DEBOUNCE), -128);
        CHECK.same("not FAULTY", x.trouble(6, FAULTY), 0);
        CHECK.same("SEEN", x.trouble(6, SEEN), 1);
        CHECK.same("PENDING stays", x.trouble(6, PENDING), 1);
        CHECK.same("MET stays", x.trouble(6, MET), 1);
        x.pin(6, 0);
        Rig.loops(x, 9);
        CHECK.same("not yet", x.trouble(6, DEBOUNCE), -128);
        Rig.loops(x, 7);
        CHECK.same("seven fails", x.trouble(6, DEBOUNCE), 96);
        CHECK.same("not FAULTY", x.trouble(6, FAULTY), 0);
        Rig.loops(x, 1);
        CHECK.same("128 is 127", x.trouble(6, DEBOUNCE), 127);
        CHECK.same("FAULTY again", x.trouble(6, FAULTY), 1);
    }

    // "and CONFIRMED with HEALED 0 if it is OLD"
    private static void oldIsConfirmedAtOnce() {
        for (int word : new int[] {0, 1, 2 + 4 * 7, 3 + 4 * 7}) {
            EngineControl x = new EngineControl();
            Rig.store(x, 0, 1, 7, word);
            x.pin(6, 0);
            x.key(true);
            Rig.loops(x, 12);
            CHECK.same("before", x.trouble(6, CONFIRMED), word >> 1 & 1);
            CHECK.same("before", x.trouble(6, HEALED), word >> 2);
            Rig.loops(x, 1);
            boolean old = (word & 1) == 1;
            CHECK.same("CONFIRMED, word " + word, x.trouble(6, CONFIRMED), old ? 1 : word >> 1 & 1);
            CHECK.same("HEALED", x.trouble(6, HEALED), old ? 0 : word >> 2);
        }
    }

    // "and if there is no FRAME, one is taken"
    private static void oneFrame() {
        EngineControl x = new EngineControl();
        x.pin(6, 0);
        x.pin(0, 0);
        x.key(true);
        Rig.loops(x, 12);
        CHECK.same("none yet", x.frame(7), EngineControl.NONE);
        Rig.loops(x, 1);
        CHECK.same("of two in one LOOP the lower number", x.frame(0), 0);
        CHECK.same("LOOPS", x.frame(7), 13);
        Rig.loops(x, 50);
        CHECK.same("it stays", x.frame(0), 0);
        CHECK.same("LOOPS", x.frame(7), 13);
        EngineControl y = new EngineControl();
        Rig.store(y, 0, 1, 29, 28, 36, 99);
        y.pin(6, 0);
        y.key(true);
        Rig.loops(y, 20);
        CHECK.same("FAULTY", y.trouble(6, FAULTY), 1);
        CHECK.same("that of STORE stays", y.frame(0), 27);
        CHECK.same("its LOOPS", y.frame(7), 99);
    }

    // "k, SPEED, PRESSURE, COOLANT, PLATE, SHORT, LONG of the cell at hand (by 10., whether CLOSED or not), LOOPS"
    private static void frameTellsAllEight() {
        EngineControl x = new EngineControl();
        constant(x, 4, 77);
        constant(x, 5, 88);
        Rig.plainLine(x, 2);
        Rig.plainLine(x, 3);
        x.pin(2, 111);
        x.pin(3, 111);
        x.calibrate(18, 1000);
        x.pin(7, 100);
        Rig.store(x, 0, 1, 39, -33, 43, 44);
        x.key(true);
        x.turn(240, 900);
        x.pin(6, 0);
        x.turn(240, 900);
        CHECK.same("trouble", x.frame(0), 6);
        CHECK.same("SPEED", x.frame(1), 1111);
        CHECK.same("PRESSURE", x.frame(2), 77);
        CHECK.same("COOLANT", x.frame(3), 88);
        CHECK.same("PLATE", x.frame(4), 111);
        CHECK.yes("SHORT", x.frame(5) > 0 && x.frame(5) < x.about(32));
        CHECK.same("LONG of CELL 2", x.frame(6), -33);
        // 21 passes (-84), ten LOOPS till the COUNTER is 100, and seven fails.
        CHECK.same("LOOPS", x.frame(7), 37);
    }

    private static void endCycle(EngineControl x) {
        x.key(false);
        Rig.loops(x, 100);
    }

    // What is MET and not OLD: PENDING stays, CONFIRMED comes in the next CYCLE.
    private static void metStaysPending() {
        EngineControl x = air();
        Rig.loops(x, 4);
        endCycle(x);
        CHECK.same("PENDING", x.word(0, 7), 1);
        x.key(true);
        CHECK.same("PENDING at BOOT", x.trouble(6, PENDING), 1);
        CHECK.same("not MET", x.trouble(6, MET), 0);
        CHECK.same("not FAULTY", x.trouble(6, FAULTY), 0);
        Rig.loops(x, 13);
        CHECK.same("CONFIRMED", x.trouble(6, CONFIRMED), 1);
        endCycle(x);
        CHECK.same("PENDING and CONFIRMED", x.word(1, 7), 3);
        // MET and SEEN in one CYCLE: it is PENDING.
        EngineControl y = air();
        Rig.loops(y, 4);
        y.pin(6, 500);
        Rig.loops(y, 170);
        CHECK.same("MET", y.trouble(6, MET), 1);
        CHECK.same("SEEN", y.trouble(6, SEEN), 1);
        endCycle(y);
        CHECK.same("PENDING", y.word(0, 7), 1);
        EngineControl z = new EngineControl();
        Rig.store(z, 0, 1, 7, 2 + 4 * 5);
        z.pin(6, 0);
        z.key(true);
        Rig.loops(z, 13);
        z.pin(6, 500);
        Rig.loops(z, 170);
        endCycle(z);
        CHECK.same("PENDING again, HEALED as it was", z.word(1, 7), 3 + 4 * 5);
    }

    // "what is not MET, but SEEN: it is not PENDING"
    private static void notSeenStaysPending() {
        EngineControl x = new EngineControl();
        // 15 passes in FULL alone, 14 in each LOOP.
        Rig.store(x, 0, 1, 15, 1, 16, 1, 17, 3 + 4 * 5);
        x.key(true);
        endCycle(x);
        CHECK.same("14 was SEEN", x.word(1, 15), 0);
        CHECK.same("15 was not", x.word(1, 16), 1);
        CHECK.same("nor 16: HEALED stays, too", x.word(1, 17), 3 + 4 * 5);
    }

    // "if it is CONFIRMED, HEALED is 1 more, and at 40 it is 0 and no more CONFIRMED"
    private static void healedToForty() {
        int[][] all = {{2, 2 + 4}, {2 + 4 * 38, 2 + 4 * 39}, {2 + 4 * 39, 0}, {3 + 4 * 39, 0}, {4 * 7, 4 * 7}, {1 + 4 * 7, 4 * 7}};
        for (int[] one : all) {
            EngineControl x = new EngineControl();
            Rig.store(x, 0, 1, 15, one[0]);
            x.key(true);
            endCycle(x);
            CHECK.same("word " + one[0], x.word(1, 15), one[1]);
        }
        // HEALED 39 and not yet at the CYCLE's end.
        EngineControl x = new EngineControl();
        Rig.store(x, 0, 1, 15, 2 + 4 * 39);
        x.key(true);
        Rig.loops(x, 50);
        CHECK.same("SEEN", x.trouble(14, SEEN), 1);
        CHECK.same("HEALED 39", x.trouble(14, HEALED), 39);
        CHECK.same("CONFIRMED", x.trouble(14, CONFIRMED), 1);
    }

    // "The LAMP is on, if any trouble is CONFIRMED with HEALED below 3, or c of the RULES is not 0."
    private static void healedBelowThree() {
        int[][] all = {{0, 2, 1}, {0, 2 + 4 * 2, 1}, {0, 2 + 4 * 3, 0}, {27, 2 + 4 * 2, 1}, {27, 2 + 4 * 3, 0}, {27, 1, 0},
            {13, 4, 0}};
        for (int[] one : all) {
            EngineControl x = new EngineControl();
            Rig.store(x, 0, 1, 1 + one[0], one[1]);
            CHECK.same("OFF", x.about(38), 0);
            x.key(true);
            CHECK.same("trouble " + one[0] + ", word " + one[1], x.about(38), one[2]);
        }
        for (String rule : new String[] {"c=1", "c=-1", "c=0"}) {
            EngineControl x = new EngineControl();
            Rig.build(x, rule);
            x.key(true);
            CHECK.same("before the first LOOP", x.about(38), 0);
            Rig.loops(x, 1);
            CHECK.same(rule, x.about(38), rule.equals("c=0") ? 0 : 1);
        }
    }

    // "CYCLES grows by 1", "(All are ints that wrap ..)"
    private static void cyclesWrap() {
        EngineControl x = new EngineControl();
        Rig.store(x, 0, 1, 53, Integer.MAX_VALUE);
        x.key(true);
        CHECK.same("as it is", x.about(39), Integer.MAX_VALUE);
        endCycle(x);
        CHECK.same("it wraps", x.word(1, 53), Integer.MIN_VALUE);
        x.key(true);
        CHECK.same("as it is", x.about(39), Integer.MIN_VALUE);
        CHECK.same("HEAD", x.about(49), 2);
    }

    // "The FRAME goes, if its trouble is neither PENDING nor CONFIRMED then."
    private static void frameGoes() {
        int[][] all = {{0, 0}, {1, 0}, {2, 15}, {2 + 4 * 38, 15}, {2 + 4 * 39, 0}};
        for (int[] one : all) {
            EngineControl x = new EngineControl();
            Rig.store(x, 0, 1, 15, one[0], 29, 15, 30, 1234, 36, 77);
            x.key(true);
            CHECK.same("the FRAME", x.frame(0), 14);
            endCycle(x);
            CHECK.same("word 29 by " + one[0], x.word(1, 29), one[1]);
            CHECK.same("word 30", x.word(1, 30), one[1] == 0 ? 0 : 1234);
            CHECK.same("word 36", x.word(1, 36), one[1] == 0 ? 0 : 77);
        }
        // Of trouble 0 and of the last one.
        for (int k : new int[] {0, 27}) {
            EngineControl x = new EngineControl();
            Rig.store(x, 0, 1, 1 + k, 1, 29, 1 + k, 31, 9);
            x.key(true);
            endCycle(x);
            CHECK.same("trouble " + k, x.word(1, 29), k == 0 ? 0 : 28);
            CHECK.same("its numbers", x.word(1, 31), k == 0 ? 0 : 9);
        }
    }

    // "A copy is VALID, if HEAD is above 0 and word 54 is that sum"
    private static void validCopies() {
        int[][] all = {{1, 0, 1}, {0, 0, 0}, {-1, 0, 0}, {Integer.MIN_VALUE, 0, 0}, {Integer.MAX_VALUE, 0, 1}, {1, 1, 0},
            {1, -1, 0}};
        for (int[] one : all) {
            for (int copy = 0; copy < 2; copy++) {
                EngineControl x = new EngineControl();
                x.spoil(copy, 1, 3);
                x.spoil(copy, 53, 17);
                x.spoil(copy, 0, one[0]);
                x.spoil(copy, 54, one[0] + 2 * 3 + 54 * 17 + one[1]);
                CHECK.same("HEAD " + one[0] + ", sum off by " + one[1], x.about(49), one[2] == 1 ? one[0] : 0);
                x.key(true);
                CHECK.same("taken over", x.about(39), one[2] == 1 ? 17 : 0);
                CHECK.same("taken over", x.trouble(0, CONFIRMED), one[2]);
            }
        }
        // Each word counts by its place.
        for (int i = 1; i <= 53; i++) {
            EngineControl x = new EngineControl();
            x.spoil(0, i, 1000003);
            x.spoil(0, 0, 9);
            x.spoil(0, 54, 9 + (i + 1) * 1000003);
            CHECK.same("word " + i, x.about(49), 9);
            x.spoil(0, i, 1000002);
            CHECK.same("word " + i + " spoiled", x.about(49), 0);
        }
        EngineControl wrap = new EngineControl();
        wrap.spoil(0, 0, 5);
        wrap.spoil(0, 40, Integer.MAX_VALUE);
        wrap.spoil(0, 54, 5 + 41 * Integer.MAX_VALUE);
        CHECK.same("the sum wraps", wrap.about(49), 5);
    }

    // "THE valid one is the one with the greater HEAD (of two alike copy 0)"
    private static void greaterHead() {
        int[][] all = {{5, 6, 1}, {6, 5, 0}, {5, 5, 0}, {5, -6, 0}, {-5, 6, 1}, {1, Integer.MAX_VALUE, 1},
            {Integer.MAX_VALUE, Integer.MIN_VALUE, 0}};
        for (int[] one : all) {
            EngineControl x = new EngineControl();
            Rig.store(x, 0, one[0], 53, 100);
            Rig.store(x, 1, one[1], 53, 101);
            CHECK.same("HEAD", x.about(49), one[one[2]]);
            x.key(true);
            CHECK.same("CYCLES", x.about(39), 100 + one[2]);
            endCycle(x);
            CHECK.same("the other one is WRITTEN", x.word(1 - one[2], 53), 101 + one[2]);
            CHECK.same("this one is not", x.word(one[2], 53), 100 + one[2]);
        }
        // A copy that is not VALID has no say, be its HEAD the greater one or not.
        for (int copy = 0; copy < 2; copy++) {
            for (int head : new int[] {1, 5, 9}) {
                EngineControl x = new EngineControl();
                Rig.store(x, copy, head, 53, 100);
                x.spoil(copy, 54, 0);
                Rig.store(x, 1 - copy, 5, 53, 101);
                CHECK.same("HEAD of the valid one", x.about(49), 5);
                x.key(true);
                CHECK.same("CYCLES", x.about(39), 101);
                endCycle(x);
                CHECK.same("the other one is WRITTEN", x.word(copy, 0), 6);
            }
        }
    }

    // "(.. behind the greatest HEAD the new one is below 0, so not VALID.)"
    private static void headWraps() {
        EngineControl x = new EngineControl();
        Rig.store(x, 0, Integer.MAX_VALUE, 53, 7);
        x.key(true);
        endCycle(x);
        CHECK.same("the new HEAD", x.word(1, 0), Integer.MIN_VALUE);
        CHECK.same("CYCLES", x.word(1, 53), 8);
        CHECK.same("the valid one is as before", x.about(49), Integer.MAX_VALUE);
        x.key(true);
        CHECK.same("CYCLES", x.about(39), 7);
        EngineControl y = new EngineControl();
        Rig.store(y, 1, Integer.MAX_VALUE - 1, 53, 7);
        y.key(true);
        endCycle(y);
        CHECK.same("the greatest HEAD", y.about(49), Integer.MAX_VALUE);
    }

    // "WRITTEN is the copy that is not the valid one (copy 0, if none is)"
    private static void writtenCopy() {
        EngineControl x = Rig.on();
        for (int i = 1; i <= 4; i++) {
            endCycle(x);
            CHECK.same("HEAD", x.about(49), i);
            CHECK.same("in turn", x.word((i + 1) % 2, 0), i);
            CHECK.same("WRITTEN", x.about(48), 56 * i);
            x.key(true);
        }
        EngineControl y = new EngineControl();
        y.spoil(0, 0, 9);
        y.spoil(1, 0, 9);
        y.key(true);
        endCycle(y);
        CHECK.same("none was valid: copy 0", y.word(0, 0), 1);
        CHECK.same("copy 1 is as it was", y.word(1, 0), 9);
        CHECK.same("HEAD", y.about(49), 1);
    }

    // "PENDING is bit 0 of word 1 + k, CONFIRMED bit 1, HEALED (the word shifted down by 2 without sign) modulo 40"
    private static void wordsOfTrouble() {
        int[] words = {0, 1, 2, 3, 4, 4 * 39, 4 * 40, 4 * 41 + 3, -1, Integer.MIN_VALUE, Integer.MAX_VALUE};
        for (int k : new int[] {0, 27}) {
            for (int word : words) {
                EngineControl x = new EngineControl();
                Rig.store(x, 1, 3, 1 + k, word);
                x.key(true);
                CHECK.same("PENDING of " + word, x.trouble(k, PENDING), word & 1);
                CHECK.same("CONFIRMED of " + word, x.trouble(k, CONFIRMED), word >>> 1 & 1);
                CHECK.same("HEALED of " + word, x.trouble(k, HEALED), (word >>> 2) % 40);
                CHECK.same("MET, SEEN, FAULTY", x.trouble(k, MET) + x.trouble(k, SEEN) + x.trouble(k, FAULTY), 0);
            }
        }
    }

    // "there is a FRAME if word 29 is 1 .. 28", "all else is taken as it is"
    private static void frameOfStore() {
        int[][] all = {{-1, -1}, {0, -1}, {1, 0}, {28, 27}, {29, -1}, {Integer.MIN_VALUE, -1}, {Integer.MAX_VALUE, -1}};
        for (int[] one : all) {
            EngineControl x = new EngineControl();
            Rig.store(x, 0, 1, 29, one[0], 30, -5, 31, 6, 32, 7, 33, 8, 34, 9, 35, 1000, 36, Integer.MIN_VALUE);
            x.key(true);
            int[] due = {one[1], -5, 6, 7, 8, 9, 1000, Integer.MIN_VALUE};
            for (int what = 0; what < 8; what++) {
                CHECK.same("frame(" + what + ") of word 29 " + one[0], x.frame(what), one[1] < 0 ? -1 : due[what]);
            }
        }
        EngineControl none = new EngineControl();
        Rig.store(none, 0, 1, 29, 29, 30, 5);
        none.key(true);
        endCycle(none);
        CHECK.same("0 without a FRAME", none.word(1, 29) + none.word(1, 30), 0);
    }

    // "LONG is cut to -100 .. 100"
    private static void longOfStore() {
        int[][] all = {{99, 99}, {100, 100}, {101, 100}, {-100, -100}, {-101, -100}, {Integer.MAX_VALUE, 100},
            {Integer.MIN_VALUE, -100}};
        for (int[] one : all) {
            EngineControl x = new EngineControl();
            Rig.store(x, 0, 1, 37, one[0], 39, one[0], 52, one[0]);
            x.key(true);
            CHECK.same("LONG of CELL 2 by " + one[0], x.about(34), one[1]);
            endCycle(x);
            CHECK.same("the first CELL", x.word(1, 37), one[1]);
            CHECK.same("the last CELL", x.word(1, 52), one[1]);
            CHECK.same("another one", x.word(1, 38), 0);
        }
    }

    // "a CHANNEL fails if it FAILS, passes if its COUNTER is 0"
    private static void channelTests() {
        for (int c = 0; c < 10; c++) {
            EngineControl x = new EngineControl();
            x.limits(c, 100, 900, 1023);
            x.pin(c, 99);
            x.key(true);
            Rig.loops(x, 9);
            CHECK.same("COUNTER 90 of " + c, x.trouble(c, DEBOUNCE), 0);
            Rig.loops(x, 1);
            CHECK.same("COUNTER 100 of " + c, x.trouble(c, DEBOUNCE), 32);
            x.cut(0);
            x.pin(c, 100);
            x.key(true);
            Rig.loops(x, 1);
            CHECK.same("COUNTER 0 of " + c, x.trouble(c, DEBOUNCE), -4);
            x.pin(c, 901);
            Rig.loops(x, 1);
            x.pin(c, 900);
            Rig.loops(x, 9);
            CHECK.same("COUNTER 1 of " + c, x.trouble(c, DEBOUNCE), -4);
            Rig.loops(x, 1);
            CHECK.same("COUNTER 0 of " + c, x.trouble(c, DEBOUNCE), -8);
        }
    }

    // "15 fails if SLIPS grew since the LOOP before, else passes if STATE is 3"
    private static void slipTest() {
        EngineControl x = Rig.on();
        x.turn(134, 1000);
        CHECK.same("HALF: neither", x.trouble(15, DEBOUNCE), 0);
        x.turn(6, 1000);
        CHECK.same("FULL passes", x.trouble(15, DEBOUNCE), -4);
        x.tooth(10);
        CHECK.same("SLIPS", x.about(7), 1);
        Rig.toLoop(x);
        CHECK.same("it fails", x.trouble(15, DEBOUNCE), 28);
        Rig.loops(x, 1);
        CHECK.same("SEEKING: neither", x.trouble(15, DEBOUNCE), 28);
        // A slip, and FULL again before the LOOP: it fails.
        EngineControl y = Rig.on();
        y.turn(240, 20);
        y.tooth(200);
        y.tooth(20);
        y.tooth(60);
        for (int i = 0; i < 12; i++) {
            y.tooth(20);
        }
        CHECK.same("FULL again", y.cam(0), EngineControl.FULL);
        CHECK.same("no LOOP yet", y.about(11), 0);
        Rig.toLoop(y);
        CHECK.same("it fails", y.trouble(15, DEBOUNCE), 32);
        Rig.loops(y, 1);
        CHECK.same("then it passes", y.trouble(15, DEBOUNCE), 28);
    }

    // "16 fails if MISSED is 3 or more, or WRONGCAM grew since the LOOP before, else passes if STATE is 3 and MISSED 0"
    private static void camTest() {
        EngineControl x = Rig.on();
        x.turn(140, 1000);
        CHECK.same("FULL, MISSED 0 passes", x.trouble(16, DEBOUNCE), -4);
        x.turn(40, 1000);
        CHECK.same("passes", x.trouble(16, DEBOUNCE), -20);
        x.cam(0);
        CHECK.same("WRONGCAM", x.about(9), 1);
        x.turn(10, 1000);
        CHECK.same("it fails", x.trouble(16, DEBOUNCE), 12);
        x.turn(10, 1000);
        CHECK.same("HALF: neither", x.trouble(16, DEBOUNCE), 12);
        // Without a cam edge: at MISSED 1 it neither fails nor passes.
        EngineControl y = Rig.on();
        y.tooth(1000);
        y.tooth(1000);
        y.tooth(3000);
        int tooth = 0;
        for (int i = 0; i < 15 + 43 + 58 + 20; i++) {
            if (i == 15) {
                y.cam(0);
            }
            y.tooth(tooth == 57 ? 3000 : 1000);
            tooth = tooth == 57 ? 0 : tooth + 1;
        }
        CHECK.same("TOOTH", y.about(3), 20);
        CHECK.same("MISSED", y.about(8), 0);
        int before = y.trouble(16, DEBOUNCE);
        CHECK.yes("it passed", before < 0);
        y.tooth(1000);
        CHECK.same("MISSED", y.about(8), 1);
        long loops = y.about(11);
        for (int i = 0; i < 10; i++) {
            y.tooth(1000);
        }
        CHECK.same("a LOOP came", y.about(11), loops + 1);
        CHECK.same("MISSED 1: neither", y.trouble(16, DEBOUNCE), before);
    }

    // "17 fails if SAME is 1000, passes if CLOSED and SAME is 0"
    private static void sameTest() {
        EngineControl x = new EngineControl();
        constant(x, 4, 60);
        constant(x, 5, 60);
        Rig.plainLine(x, 7);
        x.pin(7, 400);
        x.key(true);
        Rig.toFull(x, 1000);
        x.turn(5, 1000);
        CHECK.same("SAME 1", x.about(31), 1);
        roll(x, 998);
        CHECK.same("SAME 999", x.trouble(17, DEBOUNCE), 0);
        roll(x, 1);
        CHECK.same("SAME 1000", x.trouble(17, DEBOUNCE), 32);
        roll(x, 1);
        CHECK.same("1000 at most", x.trouble(17, DEBOUNCE), 64);
        x.pin(7, 500);
        roll(x, 1);
        CHECK.same("SAME 0 passes", x.trouble(17, DEBOUNCE), 60);
        roll(x, 1);
        CHECK.same("SAME 1: neither", x.trouble(17, DEBOUNCE), 60);
        x.tooth(1);
        Rig.toLoop(x);
        CHECK.same("not CLOSED, SAME 0: neither", x.trouble(17, DEBOUNCE), 60);
    }

    private static void roll(EngineControl x, int loops) {
        for (int left = loops; left > 0; left -= 24) {
            x.turn(10 * Math.min(24, left), 1000);
        }
    }

    // "18, if CLOSED: fails if the size of SHORT + LONG of the CELL is 240 or more, else passes"
    private static void trimTest() {
        for (int sign = -1; sign <= 1; sign += 2) {
            EngineControl x = new EngineControl();
            constant(x, 4, 60);
            constant(x, 5, 60);
            Rig.plainLine(x, 7);
            x.calibrate(12, 1);
            x.pin(7, sign > 0 ? 400 : 500);
            x.key(true);
            Rig.toFull(x, 1000);
            x.turn(5, 1000);
            CHECK.same("the first CLOSED LOOP", x.trouble(18, DEBOUNCE), -4);
            // LONG is 1 more in the 101st and the 201st.
            roll(x, 236);
            CHECK.same("SHORT and LONG", x.about(32) + x.about(34), sign * 239);
            CHECK.same("239 passes", x.trouble(18, DEBOUNCE), -128);
            roll(x, 1);
            CHECK.same("SHORT and LONG", x.about(32) + x.about(34), sign * 240);
            CHECK.same("240 fails", x.trouble(18, DEBOUNCE), -96);
            roll(x, 2);
            CHECK.same("242 fails", x.trouble(18, DEBOUNCE), -32);
            x.tooth(1);
            Rig.toLoop(x);
            CHECK.same("SHORT and LONG", x.about(32) + x.about(34), sign * 241);
            CHECK.same("not CLOSED: neither", x.trouble(18, DEBOUNCE), -32);
        }
    }

    // "19 fails if CUTOFFS grew since the LOOP before, else passes if SPARKS did"
    private static void cutoffTest() {
        EngineControl x = new EngineControl();
        x.calibrate(0, 1);
        constant(x, 8, 130);
        x.key(true);
        Rig.toFull(x, 1000);
        while (x.about(15) == 0) {
            x.turn(10, 1000);
        }
        CHECK.same("neither before", x.trouble(19, DEBOUNCE) >= -4 ? 1 : 0, 1);
        Rig.toLoop(x);
        CHECK.same("SPARKS grew", x.trouble(19, DEBOUNCE), -4);
        Rig.loops(x, 3);
        CHECK.same("neither", x.trouble(19, DEBOUNCE), -4);
        EngineControl y = new EngineControl();
        y.calibrate(0, 1);
        y.calibrate(4, 1000);
        constant(y, 8, 130);
        y.key(true);
        Rig.toFull(y, 1000);
        while (y.about(16) == 0) {
            y.turn(10, 1000);
        }
        CHECK.same("no SPARKS", y.about(15), 0);
        Rig.toLoop(y);
        CHECK.same("CUTOFFS grew", y.trouble(19, DEBOUNCE), 32);
        Rig.loops(y, 2);
        CHECK.same("once", y.trouble(19, DEBOUNCE), 32);
    }

    // "13 fails if SHUT, passes if armed and WRONG is 0"
    private static void watchTest() {
        EngineControl x = Rig.on();
        Rig.loops(x, 5);
        CHECK.same("not armed: neither", x.trouble(13, DEBOUNCE), 0);
        x.watch(true);
        Rig.loops(x, 9);
        CHECK.same("WRONG 0 passes", x.trouble(13, DEBOUNCE), -36);
        Rig.loops(x, 20);
        CHECK.same("WRONG 1, 2: neither", x.trouble(13, DEBOUNCE), -36);
        Rig.loops(x, 1);
        CHECK.same("SHUT fails", x.trouble(13, DEBOUNCE), -4);
    }

    // "1 + k: trouble k as PENDING + 2 CONFIRMED + 4 HEALED", for the first one, the last one, and all between
    private static void allWordsOfTrouble() {
        EngineControl x = new EngineControl();
        int[] words = new int[56];
        for (int k = 0; k < 28; k++) {
            words[2 * k] = 1 + k;
            words[2 * k + 1] = 2 + 4 * k;
        }
        Rig.store(x, 0, 1, words);
        x.key(true);
        endCycle(x);
        for (int k = 0; k < 28; k++) {
            // In 100 LOOPS of a wheel that stands these have been SEEN.
            boolean seen = k <= 11 || k == 14;
            CHECK.same("trouble " + k, x.word(1, 1 + k), 2 + 4 * (seen ? k + 1 : k));
        }
    }

    // What grew since the LOOP before: before the first LOOP since BOOT all counts are 0.
    private static void firstLoopOfALaterBoot() {
        EngineControl x = Rig.on();
        x.turn(240, 1000);
        x.cam(0);
        x.tooth(1);
        x.cut(0);
        Rig.toLoop(x);
        x.key(true);
        Rig.loops(x, 1);
        for (int k = 15; k <= 19; k++) {
            CHECK.same("trouble " + k + " neither fails nor passes", x.trouble(k, DEBOUNCE), 0);
        }
        for (int cutoff = 0; cutoff <= 1; cutoff++) {
            EngineControl y = new EngineControl();
            // BEGIN at 1080 (place 18), TOP at 2880; the coil has 1200 tenths, at PITCH 50 1000 ticks.
            y.calibrate(0, 1);
            y.calibrate(1, 2880);
            y.calibrate(4, cutoff == 1 ? 1000 : 2000);
            constant(y, 12, 6000);
            Rig.everyCell(y, 1, 450);
            y.key(true);
            for (int i = 0; i < 6; i++) {
                y.turn(240, 50);
            }
            CHECK.yes("some in the BOOT before", y.about(15 + cutoff) > 1);
            y.cut(0);
            Rig.toLoop(y);
            y.key(true);
            y.turn(175, 50);
            CHECK.same("no LOOP yet", y.about(11), 0);
            CHECK.same("CUTOFFS", y.about(16), cutoff);
            CHECK.same("SPARKS", y.about(15), 1 - cutoff);
            Rig.toLoop(y);
            CHECK.same("trouble 19", y.trouble(19, DEBOUNCE), cutoff == 1 ? 32 : -4);
        }
    }

    // "14 fails if HOT, else passes"
    private static void hotTest() {
        EngineControl x = new EngineControl();
        x.line(5, 0, 0, 1023, 1023);
        x.pin(5, 114);
        x.key(true);
        Rig.loops(x, 1);
        CHECK.same("114", x.trouble(14, DEBOUNCE), -4);
        x.pin(5, 115);
        Rig.loops(x, 1);
        CHECK.same("115", x.trouble(14, DEBOUNCE), 28);
        x.pin(5, 110);
        Rig.loops(x, 1);
        CHECK.same("110 is HOT yet", x.trouble(14, DEBOUNCE), 60);
        x.pin(5, 109);
        Rig.loops(x, 1);
        CHECK.same("109", x.trouble(14, DEBOUNCE), 56);
    }
}
