/** Promises 2 key, 3 pass, 19 cut, 20 spoil, 21 word. */
public final class PowerTest {
    private static final Check CHECK = new Check();

    public static void main(String[] args) {
        keyAndAfterRun();
        passing();
        loopsBeforeEvents();
        cutsOfPower();
        armedCuts();
        wordsOfStore();
        theValidCopy();
        CHECK.end();
    }

    private static void keyAndAfterRun() {
        EngineControl x = new EngineControl();
        CHECK.no("key off at first", x.key(false));
        CHECK.yes("key on", x.key(true));
        CHECK.no("key on again", x.key(true));
        CHECK.same("ON", x.about(1), EngineControl.ON);
        CHECK.same("BOOTS", x.about(69), 1);
        x.pass(30000);
        CHECK.same("LOOPS", x.about(11), 3);
        CHECK.yes("key off", x.key(false));
        CHECK.no("key off in the AFTER-RUN", x.key(false));
        CHECK.same("AFTER", x.about(1), EngineControl.AFTER);
        x.pass(500000);
        CHECK.yes("key on in the AFTER-RUN", x.key(true));
        CHECK.same("no BOOT", x.about(69), 1);
        CHECK.same("LOOPS go on", x.about(11), 53);
        x.key(false);
        x.pass(990000);
        CHECK.same("AFTER begins anew, 99", x.about(1), EngineControl.AFTER);
        x.pass(9999);
        CHECK.same("not yet", x.about(1), EngineControl.AFTER);
        CHECK.same("nothing written", x.about(48), 0);
        x.pass(1);
        CHECK.same("OFF at 100", x.about(1), EngineControl.OFF);
        CHECK.same("56 words", x.about(48), 56);
        CHECK.same("HEAD", x.about(49), 1);
        CHECK.same("CYCLES are told no more", x.about(39), 0);
        CHECK.same("LOOPS are told no more", x.about(11), 0);
        x.key(true);
        CHECK.same("CYCLES are taken over", x.about(39), 1);
        CHECK.same("BOOTS", x.about(69), 2);
    }

    private static void passing() {
        EngineControl x = new EngineControl();
        CHECK.badArgument("pass(-1)", () -> x.pass(-1));
        CHECK.badArgument("pass(2000001)", () -> x.pass(2000001));
        CHECK.same("pass(0)", x.pass(0), 0);
        CHECK.same("pass(2000000)", x.pass(2000000), 0);
        CHECK.same("TIME passes when it is OFF", x.about(0), 2000000);
        x.key(true);
        x.pass(9999);
        CHECK.same("no LOOP before the multiple", x.about(11), 0);
        x.pass(1);
        CHECK.same("a LOOP at the multiple", x.about(11), 1);
        x.pass(0);
        CHECK.same("but one", x.about(11), 1);
        x.pass(20000);
        CHECK.same("LOOPS", x.about(11), 3);
        x.cut(0);
        x.pass(5000);
        x.key(true);
        x.pass(4999);
        CHECK.same("LOOPS are at multiples of the clock", x.about(11), 0);
        x.pass(1);
        CHECK.same("LOOPS are at multiples of the clock", x.about(11), 1);
    }

    // At pitch 1000 and FIRST 600 cylinder 2 of four injects first, at the angle 2700 of place 45.
    private static void loopsBeforeEvents() {
        EngineControl x = new EngineControl();
        x.key(true);
        x.turn(120, 1000);
        x.turn(120, 1000);
        long edges = x.about(14);
        CHECK.yes("edges came", edges > 0);
        x.key(false);
        CHECK.same("ALL OFF takes EVENTS", x.about(12), 0);
        CHECK.same("nothing waits", x.cylinder(0, 7) + x.cylinder(1, 7) + x.cylinder(2, 7) + x.cylinder(3, 7), 0);
        CHECK.same("no plans in the AFTER-RUN", x.turn(100, 1000), EngineControl.FULL);
        CHECK.same("no plans in the AFTER-RUN", x.about(12), 0);
        x.cut(0);
        CHECK.same("the LOG stays", x.about(14), x.about(14));
        CHECK.yes("the LOG stays", x.about(14) >= edges);
        CHECK.same("STATE does not", x.about(2), EngineControl.LOST);
    }

    private static void cutsOfPower() {
        EngineControl x = new EngineControl();
        CHECK.badArgument("cut(-2)", () -> x.cut(-2));
        CHECK.badArgument("cut(1001)", () -> x.cut(1001));
        CHECK.same("cut(0) when OFF", x.cut(0), EngineControl.OFF);
        x.key(true);
        CHECK.same("cut(1000) only arms", x.cut(1000), EngineControl.ON);
        CHECK.same("cut(-1)", x.cut(-1), EngineControl.ON);
        x.pass(100000);
        CHECK.same("cut(0)", x.cut(0), EngineControl.OFF);
        CHECK.yes("the KEY is off then", x.key(true));
        CHECK.same("LOOPS begin anew", x.about(11), 0);
        x.key(false);
        CHECK.same("cut(5) in the AFTER-RUN", x.cut(5), EngineControl.AFTER);
        x.cut(0);
        x.key(true);
        x.key(false);
        x.pass(1000000);
        CHECK.same("a CUT disarms", x.about(48), 56);
    }

    private static void armedCuts() {
        EngineControl x = new EngineControl();
        x.cut(10);
        x.key(true);
        x.key(false);
        x.pass(1000000);
        CHECK.same("10 words were written", x.about(48), 10);
        CHECK.same("no valid copy", x.about(49), 0);
        CHECK.same("OFF", x.about(1), EngineControl.OFF);
        x.key(true);
        x.key(false);
        x.pass(1000000);
        CHECK.same("none is armed any more", x.about(48), 66);
        CHECK.same("HEAD", x.word(0, 0), 1);
        x.cut(55);
        x.key(true);
        x.key(false);
        x.pass(1000000);
        CHECK.same("the other copy has all but HEAD", x.word(1, 0), 0);
        CHECK.yes("the other copy has all but HEAD", x.word(1, 54) != 0);
        CHECK.same("the old copy is the valid one", x.about(49), 1);
        x.cut(20);
        x.cut(56);
        x.key(true);
        x.key(false);
        x.pass(1000000);
        CHECK.same("behind 56 words it is whole", x.about(49), 2);
        CHECK.same("WRITTEN", x.about(48), 66 + 55 + 56);
    }

    private static void wordsOfStore() {
        EngineControl x = new EngineControl();
        CHECK.noSuch("word(2, 0)", () -> x.word(2, 0));
        CHECK.noSuch("word(-1, 0)", () -> x.word(-1, 0));
        CHECK.noSuch("word(0, 55)", () -> x.word(0, 55));
        CHECK.noSuch("word(0, -1)", () -> x.word(0, -1));
        CHECK.noSuch("spoil(2, 0, 0)", () -> x.spoil(2, 0, 0));
        CHECK.noSuch("spoil(0, 55, 0)", () -> x.spoil(0, 55, 0));
        CHECK.same("spoil", x.spoil(1, 54, -7), 0);
        CHECK.same("spoil again", x.spoil(1, 54, 9), -7);
        CHECK.same("word", x.word(1, 54), 9);
        CHECK.same("the other copy", x.word(0, 54), 0);
        x.key(true);
        CHECK.badState("spoil while ON", () -> x.spoil(0, 0, 0));
        CHECK.noSuch("spoil: the index is looked at first", () -> x.spoil(0, 55, 0));
        x.key(false);
        CHECK.badState("spoil in the AFTER-RUN", () -> x.spoil(0, 0, 0));
        CHECK.same("word while ON", x.word(1, 54), 9);
    }

    /** A copy with only a HEAD and CYCLES; its sum is HEAD and 54 * CYCLES. */
    private static void put(EngineControl x, int copy, int head, int cycles) {
        x.spoil(copy, 0, head);
        x.spoil(copy, 53, cycles);
        x.spoil(copy, 54, head + 54 * cycles);
    }

    private static void theValidCopy() {
        EngineControl x = new EngineControl();
        put(x, 1, 3, 7);
        CHECK.same("copy 1 is valid", x.about(49), 3);
        put(x, 0, 3, 5);
        x.key(true);
        CHECK.same("of two alike copy 0", x.about(39), 5);
        x.cut(0);
        put(x, 1, 4, 7);
        x.key(true);
        CHECK.same("the greater HEAD", x.about(39), 7);
        x.cut(0);
        x.spoil(1, 54, 0);
        CHECK.same("a wrong sum", x.about(49), 3);
        put(x, 0, 0, 5);
        CHECK.same("HEAD 0 is not valid", x.about(49), 0);
        put(x, 0, -1, 5);
        CHECK.same("HEAD -1 is not valid", x.about(49), 0);
        x.key(true);
        CHECK.same("nothing is taken over", x.about(39), 0);
        x.cut(0);
        put(x, 0, Integer.MAX_VALUE, 5);
        CHECK.same("the greatest HEAD", x.about(49), Integer.MAX_VALUE);
        x.key(true);
        x.key(false);
        x.pass(1000000);
        CHECK.same("behind it the new one is below 0", x.word(1, 0), Integer.MIN_VALUE);
        CHECK.same("so it is not VALID", x.about(49), Integer.MAX_VALUE);
        CHECK.same("CYCLES of the new one", x.word(1, 53), 6);
        CHECK.same("its sum wraps", x.word(1, 54), sumOf(x, 1));
    }

    private static int sumOf(EngineControl x, int copy) {
        int sum = x.word(copy, 0);
        for (int i = 1; i < 54; i++) {
            sum += (i + 1) * x.word(copy, i);
        }
        return sum;
    }
}
