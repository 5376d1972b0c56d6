/** Promises 32 trouble, 33 frame: DEBOUNCE, CYCLES, STORE. */
public final class TroubleTest {
    private static final Check CHECK = new Check();

    public static void main(String[] args) {
        wrongInputs();
        debounce();
        cycles();
        healing();
        takingOver();
        eachTest();
        CHECK.end();
    }

    private static void wrongInputs() {
        EngineControl x = new EngineControl();
        CHECK.noSuch("trouble(28, 0)", () -> x.trouble(28, 0));
        CHECK.noSuch("trouble(-1, 0)", () -> x.trouble(-1, 0));
        CHECK.noSuch("trouble(0, 7)", () -> x.trouble(0, 7));
        CHECK.noSuch("trouble(0, -1)", () -> x.trouble(0, -1));
        CHECK.noSuch("frame(8)", () -> x.frame(8));
        CHECK.noSuch("frame(-1)", () -> x.frame(-1));
        for (int what = 0; what < 8; what++) {
            CHECK.same("no FRAME", x.frame(what), EngineControl.NONE);
        }
        CHECK.same("trouble(27, 6)", x.trouble(27, 6), 0);
    }

    private static void marks(EngineControl x, int k, int... due) {
        for (int what = 0; what < due.length; what++) {
            CHECK.same("trouble(" + k + ", " + what + ")", x.trouble(k, what), due[what]);
        }
    }

    private static void debounce() {
        EngineControl x = new EngineControl();
        x.key(true);
        x.pass(10000);
        marks(x, 6, -4, 0, 0, 0, 0, 0, 0);
        x.pin(6, 0);
        x.pass(90000);
        marks(x, 6, -4, 0, 0, 0, 0, 0, 0);
        x.pass(10000);
        marks(x, 6, 28, 0, 0, 0, 0, 0, 0);
        x.pass(30000);
        marks(x, 6, 124, 0, 0, 0, 0, 0, 0);
        CHECK.same("no FRAME", x.frame(0), EngineControl.NONE);
        x.pin(4, 1000);
        x.pass(10000);
        marks(x, 6, 127, 1, 1, 0, 0, 1, 0);
        int[] frame = {6, 0, 107, 49, 500, 0, 0, 15};
        for (int what = 0; what < 8; what++) {
            CHECK.same("FRAME " + what, x.frame(what), frame[what]);
        }
        x.pin(3, 0);
        x.pass(150000);
        marks(x, 3, 127, 1, 1, 0, 0, 1, 0);
        CHECK.same("the first FRAME stays", x.frame(0), 6);
        x.pin(6, 512);
        x.pass(990000);
        marks(x, 6, 127, 1);
        x.pass(10000);
        marks(x, 6, 123, 1);
        x.pass(610000);
        marks(x, 6, -121, 1, 1, 0, 0, 1, 0);
        x.pass(10000);
        marks(x, 6, -125, 1, 1, 0, 0, 1, 0);
        x.pass(10000);
        marks(x, 6, -128, 0, 1, 0, 0, 1, 1);
        CHECK.same("no LAMP", x.about(38), 0);
    }

    private static void fail(EngineControl x, int channel) {
        x.pin(channel, 0);
        x.pass(200000);
    }

    private static void endCycle(EngineControl x) {
        x.key(false);
        x.pass(1000000);
    }

    private static void cycles() {
        EngineControl x = new EngineControl();
        x.key(true);
        fail(x, 6);
        endCycle(x);
        CHECK.same("STORE: PENDING", x.word(0, 7), 1);
        CHECK.same("STORE: FRAME", x.word(0, 29), 7);
        CHECK.same("STORE: FRAME's PRESSURE", x.word(0, 31), 60);
        CHECK.same("STORE: FRAME's LOOPS", x.word(0, 36), 13);
        CHECK.same("STORE: CYCLES", x.word(0, 53), 1);
        marks(x, 6, 0, 0, 0, 0, 0, 0, 0);
        x.key(true);
        marks(x, 6, 0, 0, 1, 0, 0, 0, 0);
        CHECK.same("the FRAME is taken over", x.frame(7), 13);
        x.pass(120000);
        CHECK.same("not yet CONFIRMED", x.trouble(6, 3), 0);
        x.pass(10000);
        marks(x, 6, 127, 1, 1, 1, 0, 1, 0);
        CHECK.same("the LAMP", x.about(38), 1);
        endCycle(x);
        CHECK.same("STORE: PENDING and CONFIRMED", x.word(1, 7), 3);
        x.pin(6, 512);
        x.key(true);
        CHECK.same("the LAMP", x.about(38), 1);
        endCycle(x);
        CHECK.same("SEEN: not PENDING, HEALED", x.word(0, 7), 2 + 4);
        x.key(true);
        marks(x, 6, 0, 0, 0, 1, 1, 0, 0);
        CHECK.same("the FRAME stays with CONFIRMED", x.frame(0), 6);
        endCycle(x);
        x.key(true);
        CHECK.same("the LAMP with HEALED 2", x.about(38), 1);
        endCycle(x);
        x.key(true);
        CHECK.same("no LAMP with HEALED 3", x.about(38), 0);
        CHECK.same("CYCLES", x.about(39), 5);
        x.pass(10000);
        x.cut(0);
        x.key(true);
        CHECK.same("a CUT ends no CYCLE", x.about(39), 5);
    }

    /** A copy of STORE with trouble 6 as told, CYCLES 3, and a FRAME of it. */
    private static EngineControl stored(int word) {
        EngineControl x = new EngineControl();
        x.spoil(0, 0, 1);
        x.spoil(0, 7, word);
        x.spoil(0, 29, 7);
        x.spoil(0, 53, 3);
        x.spoil(0, 54, 1 + 8 * word + 30 * 7 + 54 * 3);
        x.key(true);
        return x;
    }

    private static void healing() {
        EngineControl x = stored(2 + 4 * 39);
        marks(x, 6, 0, 0, 0, 1, 39, 0, 0);
        endCycle(x);
        CHECK.same("at 40 no more CONFIRMED", x.word(1, 7), 0);
        CHECK.same("the FRAME goes", x.word(1, 29), 0);
        x = stored(1);
        endCycle(x);
        CHECK.same("PENDING heals in one CYCLE", x.word(1, 7), 0);
        x = stored(1);
        x.key(false);
        fail(x, 6);
        x.pass(800000);
        CHECK.same("MET and OLD is CONFIRMED", x.word(1, 7), 3);
        x = stored(2 + 4 * 7);
        fail(x, 6);
        CHECK.same("not OLD: HEALED stays", x.trouble(6, 4), 7);
        endCycle(x);
        CHECK.same("neither MET and OLD nor healed", x.word(1, 7), 3 + 4 * 7);
    }

    private static void takingOver() {
        EngineControl x = stored(-1);
        marks(x, 6, 0, 0, 1, 1, (-1 >>> 2) % 40, 0, 0);
        x.cut(0);
        x.spoil(0, 29, 29);
        x.spoil(0, 37, 101);
        x.spoil(0, 52, -101);
        x.spoil(0, 53, -5);
        x.spoil(0, 54, 1 - 8 + 30 * 29 + 38 * 101 - 53 * 101 - 54 * 5);
        CHECK.same("valid", x.about(49), 1);
        x.key(true);
        CHECK.same("word 29 is above 28", x.frame(0), EngineControl.NONE);
        CHECK.same("CYCLES are taken as they are", x.about(39), -5);
        x.key(false);
        x.pass(1000000);
        CHECK.same("LONG is cut", x.word(1, 37), 100);
        CHECK.same("LONG is cut", x.word(1, 52), -100);
    }

    private static void eachTest() {
        EngineControl x = new EngineControl();
        x.key(true);
        x.pass(10000);
        for (int k = 0; k < 28; k++) {
            int due = k <= 12 || k == 14 ? -4 : 0;
            CHECK.same("first LOOP, trouble " + k, x.trouble(k, 0), due);
        }
        EngineControl y = new EngineControl();
        y.key(true);
        y.pin(0, 700);
        y.pin(2, 700);
        y.pass(100000);
        CHECK.same("PEDALS 10", y.trouble(10, 0), 32);
        CHECK.same("PLATES 10", y.trouble(11, 0), 32);
        CHECK.same("LIMP", y.about(27), 1);
        y.pin(0, 512);
        y.pin(5, 57);
        y.pass(10000);
        CHECK.same("PEDALS 9", y.trouble(10, 0), 32);
        CHECK.same("HOT", y.trouble(14, 0), -40 + 32);
        y.pass(90000);
        CHECK.same("PEDALS 0", y.trouble(10, 0), 28);
        wheelTests();
    }

    private static void wheelTests() {
        EngineControl x = new EngineControl();
        x.key(true);
        x.turn(240, 1000);
        int before = x.trouble(15, 0);
        CHECK.yes("passes in FULL", before < 0);
        CHECK.yes("the cam too", x.trouble(16, 0) < 0);
        CHECK.yes("SPARKS", x.trouble(19, 0) < 0);
        x.cam(1);
        x.pass(10000);
        CHECK.same("WRONGCAM", x.trouble(16, 0), before + 32);
        x.tooth(20000);
        CHECK.same("SLIPS", x.about(7), 1);
        int slips = x.trouble(15, 0);
        x.pass(10000);
        CHECK.same("SLIPS grew", x.trouble(15, 0), slips + 32);
        x.pass(10000);
        CHECK.same("once", x.trouble(15, 0), slips + 32);
        EngineControl y = new EngineControl();
        y.key(true);
        y.watch(true);
        y.pass(90000);
        CHECK.same("armed and WRONG 0", y.trouble(13, 0), -36);
        y.pass(210000);
        CHECK.same("SHUT", y.trouble(13, 0), -4);
    }
}
