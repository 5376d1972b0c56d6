/** Boundary cases of THE RECORDER. */
public final class RecorderBoundsTest {
    private static final Check CHECK = new Check();

    public static void main(String[] args) {
        notToldYet();
        everyLoop();
        everyHundredth();
        latestHundredAndTwentyEight();
        sixtyFourMore();
        moreByRows();
        triggeredOnce();
        edgeOfD();
        edgeAtBoot();
        edgeSinceTold();
        toldAnew();
        staysWhenOff();
        numbersAsTheyAre();
        CHECK.end();
    }

    private static EngineControl recording(int every, String rules) {
        EngineControl x = new EngineControl();
        if (!rules.isEmpty()) {
            CHECK.yes("RULES", Rig.build(x, rules) > 0);
        }
        x.record(every, 11, 0, 78);
        x.key(true);
        return x;
    }

    private static void notToldYet() {
        EngineControl x = Rig.on();
        Rig.loops(x, 20);
        CHECK.same("rows", x.about(78), 0);
        CHECK.same("it does not RUN", x.about(79), 0);
        CHECK.noSuch("row(0, 0)", () -> x.row(0, 0));
    }

    // "if it RUNS and LOOPS is a multiple of EVERY"
    private static void everyLoop() {
        EngineControl x = recording(1, "");
        CHECK.same("it RUNS", x.about(79), 1);
        CHECK.same("no rows", x.about(78), 0);
        CHECK.noSuch("row(0, 0)", () -> x.row(0, 0));
        Rig.loops(x, 3);
        CHECK.same("rows", x.about(78), 3);
        for (int i = 0; i < 3; i++) {
            CHECK.same("LOOPS", x.row(i, 0), i + 1);
            CHECK.same("TIME", x.row(i, 1), 10000 * (i + 1));
            CHECK.same("rows before it", x.row(i, 2), i);
        }
        CHECK.noSuch("row(3, 0)", () -> x.row(3, 0));
        CHECK.noSuch("row(0, 3)", () -> x.row(0, 3));
    }

    private static void everyHundredth() {
        EngineControl x = recording(100, "");
        Rig.loops(x, 99);
        CHECK.same("99", x.about(78), 0);
        Rig.loops(x, 1);
        CHECK.same("100", x.about(78), 1);
        Rig.loops(x, 99);
        CHECK.same("199", x.about(78), 1);
        Rig.loops(x, 1);
        CHECK.same("200", x.row(1, 0), 200);
        EngineControl y = Rig.on();
        Rig.loops(y, 5);
        y.record(3, 11, 11, 11);
        Rig.loops(y, 1);
        CHECK.same("a multiple of LOOPS, not since it was told", y.row(0, 0), 6);
        Rig.loops(y, 2);
        CHECK.same("8", y.about(78), 1);
        Rig.loops(y, 1);
        CHECK.same("9", y.row(1, 0), 9);
    }

    // "(the latest 128 are kept)"
    private static void latestHundredAndTwentyEight() {
        EngineControl x = recording(1, "");
        Rig.loops(x, 127);
        CHECK.same("127", x.about(78), 127);
        CHECK.noSuch("row(127, 0)", () -> x.row(127, 0));
        Rig.loops(x, 1);
        CHECK.same("128", x.about(78), 128);
        CHECK.same("the oldest", x.row(0, 0), 1);
        CHECK.same("the latest", x.row(127, 0), 128);
        CHECK.noSuch("row(128, 0)", () -> x.row(128, 0));
        Rig.loops(x, 1);
        CHECK.same("128 still", x.about(78), 128);
        CHECK.same("the oldest", x.row(0, 0), 2);
        CHECK.same("the latest", x.row(127, 0), 129);
        CHECK.noSuch("row(128, 0)", () -> x.row(128, 0));
        Rig.loops(x, 200);
        CHECK.same("the oldest", x.row(0, 0), 202);
        CHECK.same("the latest", x.row(127, 0), 329);
        CHECK.same("it RUNS", x.about(79), 1);
    }

    // "MORE is 64", "if MORE is above 0, it is 1 less, and at 0 it does not RUN any more"
    private static void sixtyFourMore() {
        EngineControl x = recording(1, "d=n>9?1:0");
        Rig.loops(x, 10);
        CHECK.same("the row of the LOOP of the trigger", x.about(78), 10);
        Rig.loops(x, 63);
        CHECK.same("63 more", x.about(78), 73);
        CHECK.same("it RUNS", x.about(79), 1);
        Rig.loops(x, 1);
        CHECK.same("64 more", x.about(78), 74);
        CHECK.same("it does not RUN", x.about(79), 0);
        Rig.loops(x, 50);
        CHECK.same("no rows more", x.about(78), 74);
        CHECK.same("the last one", x.row(73, 0), 74);
    }

    // Of EVERY 5 there are 64 rows more, not 64 LOOPS.
    private static void moreByRows() {
        EngineControl x = recording(5, "d=n>9?1:0");
        Rig.loops(x, 10 + 5 * 63);
        CHECK.same("rows", x.about(78), 2 + 63);
        CHECK.same("it RUNS", x.about(79), 1);
        Rig.loops(x, 4);
        CHECK.same("it RUNS", x.about(79), 1);
        Rig.loops(x, 1);
        CHECK.same("it does not RUN", x.about(79), 0);
        CHECK.same("rows", x.about(78), 66);
        Rig.loops(x, 100);
        CHECK.same("rows", x.about(78), 66);
    }

    // "if it RUNS, MORE is -1": another edge does not make it longer
    private static void triggeredOnce() {
        EngineControl x = recording(1, "d=n~10?1:n~40?1:0");
        Rig.loops(x, 73);
        CHECK.same("it RUNS", x.about(79), 1);
        Rig.loops(x, 1);
        CHECK.same("it does not RUN", x.about(79), 0);
        CHECK.same("rows", x.about(78), 74);
        EngineControl y = recording(1, "d=n~10?1:n~200?1:0");
        Rig.loops(y, 250);
        CHECK.same("nor again when it has ended", y.about(79), 0);
        CHECK.same("the last row", y.row((int) y.about(78) - 1, 0), 74);
    }

    // "d is not 0 and was 0 in the LOOP before"
    private static void edgeOfD() {
        EngineControl negative = recording(1, "d=n>9?0-1:0");
        Rig.loops(negative, 74);
        CHECK.same("d -1", negative.about(79), 0);
        EngineControl none = recording(1, "d=0");
        Rig.loops(none, 200);
        CHECK.same("d 0", none.about(79), 1);
        // d is told to be 1 from before record(): no edge then, but that since it was told.
        EngineControl x = new EngineControl();
        Rig.build(x, "d=n<50?1:n<60?0:7");
        x.key(true);
        Rig.loops(x, 5);
        x.record(1, 11, 11, 11);
        Rig.loops(x, 65);
        CHECK.same("64 behind LOOP 6", x.about(78), 65);
        CHECK.same("it does not RUN", x.about(79), 0);
    }

    // "(before the first LOOP since BOOT .. it counts as 0)"
    private static void edgeAtBoot() {
        EngineControl x = recording(1, "d=1");
        Rig.loops(x, 64);
        CHECK.same("rows", x.about(78), 64);
        CHECK.same("it RUNS", x.about(79), 1);
        Rig.loops(x, 1);
        CHECK.same("1 and 64", x.about(78), 65);
        CHECK.same("it does not RUN", x.about(79), 0);
        EngineControl y = new EngineControl();
        Rig.build(y, "d=1");
        y.key(true);
        Rig.loops(y, 3);
        y.cut(0);
        y.record(1, 11, 11, 11);
        y.key(true);
        Rig.loops(y, 65);
        CHECK.same("the first LOOP of another BOOT", y.about(79), 0);
    }

    // "(.. or since it was told, it counts as 0)"
    private static void edgeSinceTold() {
        EngineControl x = Rig.on();
        Rig.build(x, "d=1");
        Rig.loops(x, 3);
        CHECK.same("d", x.about(75), 1);
        x.record(2, 11, 11, 11);
        Rig.loops(x, 1);
        CHECK.same("a row at 4, and the edge", x.about(78), 1);
        Rig.loops(x, 127);
        CHECK.same("it RUNS", x.about(79), 1);
        Rig.loops(x, 1);
        CHECK.same("64 rows more", x.about(79), 0);
        CHECK.same("65", x.about(78), 65);
    }

    // "then it RUNS, has no rows, and MORE is -1"
    private static void toldAnew() {
        EngineControl x = recording(1, "d=n~10?1:0");
        Rig.loops(x, 30);
        x.record(1, 0, 11, 11);
        CHECK.same("no rows", x.about(78), 0);
        CHECK.noSuch("row(0, 0)", () -> x.row(0, 0));
        CHECK.same("it RUNS", x.about(79), 1);
        Rig.loops(x, 150);
        CHECK.same("MORE is -1: it RUNS", x.about(79), 1);
        CHECK.same("128 rows", x.about(78), 128);
        CHECK.same("TIME now", x.row(127, 0), 1800000);
        x.record(50, 11, 11, 11);
        Rig.loops(x, 20);
        CHECK.same("200", x.row(0, 0), 200);
        CHECK.same("one row", x.about(78), 1);
    }

    // "THE RECORDER is the bench's and stays when the controller is OFF."
    private static void staysWhenOff() {
        EngineControl x = recording(1, "");
        Rig.loops(x, 5);
        x.cut(0);
        CHECK.same("rows", x.about(78), 5);
        CHECK.same("it RUNS", x.about(79), 1);
        x.pass(100000);
        CHECK.same("no LOOP, no row", x.about(78), 5);
        x.key(true);
        Rig.loops(x, 2);
        CHECK.same("rows", x.about(78), 7);
        CHECK.same("LOOPS began anew", x.row(5, 0), 1);
        EngineControl y = recording(1, "d=n~3?1:0");
        Rig.loops(y, 13);
        y.cut(0);
        y.key(true);
        Rig.loops(y, 53);
        CHECK.same("MORE stays, too", y.about(79), 1);
        Rig.loops(y, 1);
        CHECK.same("3 and 64", y.about(78), 67);
        CHECK.same("it does not RUN", y.about(79), 0);
    }

    // "a row of the three numbers as they are then": behind 12a., before 13a.
    private static void numbersAsTheyAre() {
        EngineControl x = new EngineControl();
        Rig.build(x, "a=n*2");
        x.record(1, 72, 63, 59);
        x.key(true);
        Rig.allow(x, 50, 0);
        Rig.loops(x, 4);
        CHECK.same("a of this LOOP", x.row(3, 0), 8);
        CHECK.same("513 of this LOOP is not yet SENT", x.row(1, 1), 0);
        CHECK.same("that of LOOP 2 is", x.row(2, 1), 1);
        CHECK.same("SINCE has not grown yet", x.row(0, 2), 0);
        CHECK.same("SINCE", x.row(3, 2), 3);
    }
}
