/** Promises 7 run, 8 set, 9 load. */
public final class ModelTest {
    private static final Check CHECK = new Check();

    public static void main(String[] args) {
        setting();
        loads();
        standing();
        starterTurns();
        strokes();
        pinsOfTheModel();
        heat();
        CHECK.end();
    }

    private static void setting() {
        EngineControl x = new EngineControl();
        CHECK.noSuch("set(2, true)", () -> x.set(2, true));
        CHECK.noSuch("set(-1, true)", () -> x.set(-1, true));
        CHECK.no("STARTER is off", x.set(0, false));
        CHECK.yes("STARTER on", x.set(0, true));
        CHECK.no("STARTER on again", x.set(0, true));
        CHECK.no("AUTO is off", x.set(1, false));
        CHECK.yes("AUTO on", x.set(1, true));
        CHECK.yes("AUTO off", x.set(1, false));
        x.key(true);
        x.cut(0);
        CHECK.no("STARTER stays behind OFF", x.set(0, true));
    }

    private static void loads() {
        EngineControl x = new EngineControl();
        CHECK.badArgument("load(-1)", () -> x.load(-1));
        CHECK.badArgument("load(401)", () -> x.load(401));
        CHECK.same("load at first", x.load(400), 0);
        CHECK.same("load", x.load(0), 400);
        x.load(7);
        x.key(true);
        x.cut(0);
        CHECK.same("LOAD stays", x.load(0), 7);
    }

    private static void standing() {
        EngineControl x = new EngineControl();
        CHECK.badArgument("run(0)", () -> x.run(0));
        CHECK.badArgument("run(241)", () -> x.run(241));
        CHECK.same("the wheel stands", x.run(240), 0);
        CHECK.same("TIME too", x.about(0), 0);
    }

    // With the starter each STEP takes 4000 ticks until place 10, where RPM shrinks by 250 / 64 + LOAD / 4.
    private static void starterTurns() {
        EngineControl x = new EngineControl();
        x.set(0, true);
        CHECK.same("run(1)", x.run(1), 1);
        CHECK.same("RPM", x.about(44), 250);
        CHECK.same("TIME", x.about(0), 4000);
        CHECK.same("WHERE", x.about(45), 1);
        x.run(8);
        CHECK.same("RPM before place 10", x.about(44), 250);
        x.load(8);
        x.run(1);
        CHECK.same("RPM at place 10", x.about(44), 250 - 3 - 2);
        x.set(0, false);
        x.run(10);
        CHECK.same("without the starter", x.about(44), 245 - 3 - 2);
        fifty();
        x.load(400);
        CHECK.same("it stops at place 40", x.run(240), 20);
        CHECK.same("RPM below 50 is 0", x.about(44), 0);
        CHECK.same("WHERE", x.about(45), 40);
        CHECK.same("no STEP", x.run(1), 0);
        x.set(0, true);
        CHECK.same("240 STEPS", x.run(240), 240);
        CHECK.same("the place behind 119 is 0", x.about(45), 40);
    }

    // 250 less 3 and 97 is 150, less 2 and 98 is 50.
    private static void fifty() {
        EngineControl x = new EngineControl();
        x.set(0, true);
        x.load(388);
        x.run(10);
        CHECK.same("RPM", x.about(44), 150);
        x.set(0, false);
        x.load(392);
        x.run(10);
        CHECK.same("RPM", x.about(44), 50);
        long before = x.about(0);
        CHECK.same("50 turns yet", x.run(1), 1);
        CHECK.same("20000 ticks", x.about(0) - before, 20000);
        x.load(4);
        x.run(9);
        CHECK.same("RPM", x.about(44), 49);
        CHECK.same("49 does not", x.run(1), 0);
        CHECK.same("RPM", x.about(44), 0);
    }

    /** The engine with all pins at rest comes to life by the starter. */
    private static void strokes() {
        EngineControl x = new EngineControl();
        x.set(0, true);
        x.set(1, true);
        x.pin(0, 30);
        x.pin(1, 30);
        x.key(true);
        for (int i = 0; i < 4; i++) {
            x.run(240);
        }
        CHECK.same("FULL", x.about(2), EngineControl.FULL);
        CHECK.yes("sparks", x.about(15) > 0);
        CHECK.yes("strokes make it faster than the starter", x.about(44) > 300);
        x.set(0, false);
        for (int i = 0; i < 10; i++) {
            x.run(240);
        }
        CHECK.yes("it runs by itself", x.about(44) > 300);
        x.cut(0);
        x.load(8);
        int done = 0;
        for (int i = 0; i < 20; i++) {
            done = x.run(240);
        }
        CHECK.same("without the controller it stops", done, 0);
        CHECK.same("RPM", x.about(44), 0);
        oneStroke();
    }

    /** Injector and coil of cylinder 0 act in STEPS of turn(); run() feels them at its TOP, place 10. */
    private static void oneStroke() {
        EngineControl x = new EngineControl();
        x.calibrate(0, 1);
        x.key(true);
        x.turn(120, 1000);
        x.turn(120, 1000);
        x.turn(120, 1000);
        CHECK.same("WHERE", x.about(45), 0);
        int fuel = x.cylinder(0, 5);
        CHECK.yes("FUEL", fuel > 640);
        x.set(0, true);
        x.run(9);
        CHECK.same("before TOP", x.about(44), 250);
        x.run(1);
        int faster = 250 + fuel / 64;
        CHECK.same("at TOP, and slowed at place 10", x.about(44), faster - faster / 64);
    }

    private static void pinsOfTheModel() {
        EngineControl x = new EngineControl();
        x.set(1, true);
        x.pin(0, 200);
        x.pin(1, 200);
        CHECK.same("FLAP", x.about(46), 60);
        x.key(true);
        CHECK.same("pins before the LOOP", x.channel(2, 0), 512);
        x.pass(10000);
        CHECK.same("FLAP at rest", x.about(46), 60);
        CHECK.same("PLATE1", x.channel(2, 0), 61);
        CHECK.same("PLATE2", x.channel(3, 0), 61);
        CHECK.same("PRESSURE: 34", x.channel(4, 0), 24 * 1023 / 100);
        CHECK.same("COOLANT: 20", x.channel(5, 0), 120 * 1023 / 180);
        // PEDAL is 195, PLATE 59: ERROR 136, SUM 136, DUTY 544 + 8
        CHECK.same("DUTY", x.about(25), 552);
        x.pass(10000);
        CHECK.same("FLAP goes by DUTY / 20", x.about(46), 60 + 27);
        x.key(false);
        x.pass(20000);
        for (int i = 0; i < 10; i++) {
            long before = x.about(46);
            x.pass(10000);
            CHECK.same("to 60 by 10 behind a LOOP without power", x.about(46), Math.max(60, before - 10));
        }
        CHECK.same("FLAP at rest again", x.about(46), 60);
        flapEnds();
        x.set(1, false);
        x.pin(2, 700);
        x.pass(10000);
        CHECK.same("without AUTO pins stay", x.channel(2, 0), 700);
    }

    private static void flapEnds() {
        EngineControl x = new EngineControl();
        x.calibrate(18, 1000);
        x.calibrate(16, 50);
        x.limits(2, 0, 1023, 1023);
        x.limits(3, 0, 1023, 1023);
        x.set(1, true);
        x.pin(0, 1003);
        x.pin(1, 1003);
        x.line(0, 20, 0, 1003, 3000);
        x.line(1, 20, 0, 1003, 3000);
        x.key(true);
        x.pass(2000000);
        CHECK.same("FLAP 1000 at most", x.about(46), 1000);
        x.pin(0, 20);
        x.pin(1, 20);
        x.pass(1200000);
        CHECK.same("FLAP 0 at least", x.about(46), 0);
        x.watch(true);
        x.pass(300000);
        CHECK.same("SHUT", x.about(28), 1);
        x.pass(10000);
        for (int i = 0; i < 8; i++) {
            long before = x.about(46);
            x.pass(10000);
            CHECK.same("to 60 from below", x.about(46), Math.min(60, before + 10));
        }
    }

    private static void heat() {
        EngineControl x = new EngineControl();
        x.set(1, true);
        x.set(0, true);
        x.key(true);
        CHECK.same("HEAT at first", x.about(47), 20);
        x.pass(1000000);
        CHECK.same("20 at least", x.about(47), 20);
        EngineControl y = new EngineControl();
        y.set(0, true);
        y.set(1, true);
        y.pin(0, 40);
        y.pin(1, 40);
        y.key(true);
        for (int i = 0; i < 8; i++) {
            y.run(240);
        }
        CHECK.yes("RPM", y.about(44) >= 400);
        long before = y.about(47);
        long loops = y.about(11);
        y.pass(2000000);
        CHECK.same("1 more in each 50th LOOP", y.about(47), before + (loops + 200) / 50 - loops / 50);
        CHECK.same("RAW of COOLANT", y.channel(5, 0), (140 - y.about(47)) * 1023 / 180);
        y.load(400);
        for (int i = 0; i < 3; i++) {
            y.set(0, false);
            y.run(240);
        }
        CHECK.same("the wheel stands", y.about(44), 0);
        before = y.about(47);
        loops = y.about(11);
        y.pass(2000000);
        CHECK.same("1 less in each 50th LOOP", y.about(47), Math.max(20, before - (loops + 200) / 50 + loops / 50));
        fullPower();
        heatEnds(98, 92, 98);
        heatEnds(50, 59, 60);
        heatEnds(140, 130, 130);
    }

    /** Eight cylinders with the most FUEL, and the flap at rest: PRESSURE is 12 at least. */
    private static void fullPower() {
        EngineControl x = new EngineControl();
        x.calibrate(0, 8);
        x.calibrate(5, 9000);
        x.calibrate(9, 400);
        x.limits(2, 0, 1023, 1023);
        x.limits(3, 0, 1023, 1023);
        for (int i = 0; i < 4; i++) {
            for (int j = 0; j < 4; j++) {
                x.cell(0, i, j, 20000);
                x.cell(1, i, j, 0);
            }
        }
        x.set(0, true);
        x.set(1, true);
        x.pin(0, 20);
        x.pin(1, 20);
        x.key(true);
        long most = 0;
        for (int i = 0; i < 60; i++) {
            x.run(240);
            most = Math.max(most, x.about(44));
        }
        CHECK.yes("RPM", most > 5000);
        CHECK.yes("9000 at most", most <= 9000);
        CHECK.same("RAW of PRESSURE 12", x.channel(4, 0), 2 * 1023 / 100);
    }

    /** With FAN1 from a COOLANT on HEAT stays between two numbers at last. */
    private static void heatEnds(int fan, int least, int most) {
        EngineControl x = new EngineControl();
        x.calibrate(14, fan);
        x.set(0, true);
        x.set(1, true);
        x.pin(0, 40);
        x.pin(1, 40);
        x.key(true);
        for (int i = 0; i < 8; i++) {
            x.run(240);
        }
        for (int i = 0; i < 30; i++) {
            x.pass(2000000);
        }
        long low = 1000;
        long high = 0;
        for (int i = 0; i < 40; i++) {
            x.pass(500000);
            low = Math.min(low, x.about(47));
            high = Math.max(high, x.about(47));
        }
        CHECK.same("HEAT at least, FAN1 " + fan, low, least);
        CHECK.same("HEAT at most, FAN1 " + fan, high, most);
    }
}
