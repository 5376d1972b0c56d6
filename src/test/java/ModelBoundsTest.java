/** Boundary cases of THE MODEL: the wheel's places, RPM's ends, strokes, FLAP, HEAT and its pins. */
public final class ModelBoundsTest {
    private static final Check CHECK = new Check();

    public static void main(String[] args) {
        placesGoRound();
        edgesAtPlaces();
        starterTo250();
        belowFiftyItStands();
        stepsTakeTicks();
        shrinksAtTens();
        shrinksToZero();
        strokeNeedsBoth();
        strokeByFuel();
        strokeOverTurnAndOff();
        fastest();
        flapGoesToSixty();
        flapByDuty();
        flapEnds();
        flapAtFirst();
        pinsOfTheFlap();
        pressureEnds();
        heatAtFifty();
        heatByRpm();
        heatEnds();
        heatByFan();
        coolantPin();
        withoutAuto();
        starterAt249();
        strokeIsFeltOnce();
        topsOfEachPlace();
        pressureByTheFlap();
        CHECK.end();
    }

    private static void constant(EngineControl x, int line, int v) {
        x.line(line, -10000, v, 30000, v);
    }

    // "WHERE is the next place (119 is followed by 0)"
    private static void placesGoRound() {
        EngineControl x = new EngineControl();
        CHECK.same("0 at first", x.about(45), 0);
        x.turn(119, 20);
        CHECK.same("119", x.about(45), 119);
        x.turn(1, 20);
        CHECK.same("0", x.about(45), 0);
        x.turn(240, 20);
        CHECK.same("0 again", x.about(45), 0);
        x.set(0, true);
        x.turn(119, 20);
        CHECK.same("run", x.run(1), 1);
        CHECK.same("0 by run()", x.about(45), 0);
    }

    // "at places that are 0 .. 57 modulo 60 there is a CRANK EDGE; at 15 a CAM EDGE, behind it"
    private static void edgesAtPlaces() {
        EngineControl x = Rig.on();
        x.turn(57, 1000);
        CHECK.same("PITCH", x.about(5), 1000);
        // An edge at 58 or 59 would be no gap for the one at 60.
        x.turn(2, 1000);
        CHECK.same("none at 58, 59", x.about(2), EngineControl.SEEKING);
        x.turn(1, 1000);
        CHECK.same("one at 60, behind a gap", x.about(2), EngineControl.HALF);
        CHECK.same("TOOTH 0", x.about(3), 0);
        x.turn(15, 1000);
        CHECK.same("no cam edge at 75", x.about(2), EngineControl.HALF);
        x.turn(42, 1000);
        CHECK.same("TOOTH 57 at 117", x.about(3), 57);
        x.turn(2, 1000);
        CHECK.same("none at 118, 119", x.about(3), 57);
        x.turn(1, 1000);
        CHECK.same("one at 0", x.about(3), 0);
        x.turn(14, 1000);
        CHECK.same("no cam edge at 14", x.about(2), EngineControl.HALF);
        x.turn(1, 1000);
        CHECK.same("a cam edge at 15", x.about(2), EngineControl.FULL);
        CHECK.same("behind the CRANK EDGE", x.about(3), 15);
        x.turn(60, 1000);
        CHECK.same("none at 75", x.about(9), 0);
        x.turn(60, 1000);
        CHECK.same("a right one at 15", x.about(9), 0);
        // At TOOTH 9 of the controller's wheel the cam edge is wrong if it came before the CRANK EDGE of 10.
        EngineControl y = Rig.on();
        y.turn(14, 1000);
        y.cam(0);
        CHECK.same("nothing when SEEKING", y.about(2), EngineControl.SEEKING);
    }

    // "if the STARTER is on and RPM below 250, it is 250"
    private static void starterTo250() {
        EngineControl x = new EngineControl();
        CHECK.same("without it the wheel stands", x.run(5), 0);
        CHECK.same("RPM", x.about(44), 0);
        CHECK.same("no TIME", x.about(0), 0);
        x.set(0, true);
        CHECK.same("run", x.run(9), 9);
        CHECK.same("RPM", x.about(44), 250);
        CHECK.same("TIME", x.about(0), 9 * 4000);
        x.run(1);
        CHECK.same("shrinks at 10", x.about(44), 247);
        x.run(1);
        CHECK.same("250 again", x.about(44), 250);
        x.load(400);
        x.run(9);
        CHECK.same("250 - 3 - 100", x.about(44), 147);
        x.set(0, false);
        x.run(1);
        CHECK.same("no STARTER", x.about(44), 147);
        CHECK.same("1000000 / 147", x.about(0), 40000 + 4000 * 10 + 6802);
    }

    /** RPM is so much: from 250, 247 by the STARTER, by the LOAD at a place that is a multiple of 10. */
    private static EngineControl rpm(int rpm) {
        EngineControl x = new EngineControl();
        x.set(0, true);
        x.run(9);
        int left = 247;
        while (left - left / 64 - 100 >= rpm) {
            x.load(400);
            x.run(1);
            x.set(0, false);
            x.run(9);
            left = (int) x.about(44);
        }
        x.set(0, false);
        int now = (int) x.about(44);
        x.load(4 * (now - now / 64 - rpm));
        x.run(1);
        CHECK.same("RPM", x.about(44), rpm);
        x.load(0);
        return x;
    }

    // "if RPM is below 50, it is 0 and the wheel stands"
    private static void belowFiftyItStands() {
        EngineControl fifty = rpm(50);
        long before = fifty.about(0);
        CHECK.same("RPM 50", fifty.run(1), 1);
        CHECK.same("20000 ticks", fifty.about(0) - before, 20000);
        CHECK.same("RPM", fifty.about(44), 50);
        EngineControl less = rpm(49);
        before = less.about(0);
        int where = (int) less.about(45);
        CHECK.same("RPM 49", less.run(240), 0);
        CHECK.same("RPM is 0", less.about(44), 0);
        CHECK.same("no TIME", less.about(0), before);
        CHECK.same("WHERE", less.about(45), where);
        // It stands in the middle of a run, too.
        EngineControl x = rpm(60);
        x.load(400);
        CHECK.same("ten STEPS to the next multiple of 10", x.run(240), 10);
        CHECK.same("RPM", x.about(44), 0);
    }

    // "else the STEP takes 1000000 / RPM ticks"
    private static void stepsTakeTicks() {
        int[][] all = {{50, 20000}, {51, 19607}, {99, 10101}, {101, 9900}, {150, 6666}, {200, 5000}};
        for (int[] one : all) {
            EngineControl x = rpm(one[0]);
            long before = x.about(0);
            x.run(1);
            CHECK.same("RPM " + one[0], x.about(0) - before, one[1]);
        }
    }

    // "if WHERE is a multiple of 10, RPM shrinks by RPM / 64 + LOAD / 4"
    private static void shrinksAtTens() {
        int[][] loads = {{0, 247}, {3, 247}, {4, 246}, {7, 246}, {399, 148}, {400, 147}};
        for (int[] one : loads) {
            EngineControl x = new EngineControl();
            x.set(0, true);
            x.load(one[0]);
            x.run(9);
            CHECK.same("at 9", x.about(44), 250);
            x.run(1);
            CHECK.same("LOAD " + one[0], x.about(44), one[1]);
        }
        int[][] all = {{63, 63}, {64, 63}, {127, 126}, {128, 126}, {191, 189}, {192, 189}};
        for (int[] one : all) {
            EngineControl x = rpm(one[0]);
            x.run(9);
            CHECK.same("RPM", x.about(44), one[0]);
            x.run(1);
            CHECK.same("RPM " + one[0], x.about(44), one[1]);
        }
        EngineControl x = new EngineControl();
        x.set(0, true);
        x.run(119);
        x.run(1);
        CHECK.same("place 0 is a multiple, too", x.about(44), 247);
        EngineControl y = new EngineControl();
        y.set(0, true);
        y.run(9);
        y.turn(1, 1000);
        CHECK.same("turn(): RPM stays", y.about(44), 250);
    }

    // "(0 at least)"
    private static void shrinksToZero() {
        int[][] all = {{100, 0}, {101, 0}, {102, 1}, {99, 0}};
        for (int[] one : all) {
            EngineControl x = rpm(one[0]);
            x.run(9);
            x.load(400);
            x.run(1);
            CHECK.same("RPM " + one[0] + " by LOAD 400", x.about(44), one[1]);
        }
    }

    /** One cylinder, TOP at place 30 (1800): BEGIN is 0. FULL, at place 15, RPM 250. */
    private static EngineControl oneCylinder(int cell, int dead) {
        EngineControl x = new EngineControl();
        x.calibrate(0, 1);
        x.calibrate(1, 1800);
        x.calibrate(2, 2000000);
        Rig.everyCell(x, 0, cell);
        constant(x, 5, 20);
        constant(x, 10, 1000);
        constant(x, 11, dead);
        x.set(0, true);
        return x;
    }

    // "if .. its injector went on, by a plan of FUEL f .., and its coil gave a SPARK .., RPM grows"
    private static void strokeNeedsBoth() {
        EngineControl x = oneCylinder(6000, 400);
        x.key(true);
        x.run(135);
        CHECK.same("FULL", x.about(2), EngineControl.FULL);
        x.run(105);
        CHECK.same("no stroke before the first plan", x.about(44), 247);
        x.run(29);
        long before = x.about(44);
        x.run(1);
        // At place 30: 6400 / 64 more, then a multiple of 10.
        long grown = before + 100;
        CHECK.same("a stroke", x.about(44), grown - grown / 64);
        EngineControl noFuel = oneCylinder(0, 400);
        noFuel.key(true);
        noFuel.run(240);
        noFuel.run(30);
        CHECK.yes("SPARKS", noFuel.about(15) > 0);
        CHECK.yes("a SPARK alone", noFuel.about(44) <= 250);
        EngineControl noSpark = oneCylinder(6000, 400);
        noSpark.calibrate(4, 1000);
        noSpark.key(true);
        noSpark.run(240);
        noSpark.run(30);
        CHECK.yes("USED", noSpark.about(64) > 0);
        CHECK.same("SPARKS", noSpark.about(15), 0);
        CHECK.yes("FUEL alone", noSpark.about(44) <= 250);
    }

    private static long grownBy(int fuel) {
        EngineControl x = oneCylinder(fuel <= 20000 ? fuel : 20000, fuel <= 20000 ? 0 : fuel - 20000);
        // TOP at 1860: place 31, no multiple of 10.
        x.calibrate(1, 1860);
        x.key(true);
        x.run(240);
        x.run(30);
        long before = x.about(44);
        CHECK.same("FUEL", x.cylinder(0, 5), fuel);
        x.run(1);
        return x.about(44) - Math.max(250, before);
    }

    // "RPM grows by the lesser of f and 12000, by 64 (cut off)"
    private static void strokeByFuel() {
        int[][] all = {{1, 0}, {63, 0}, {64, 1}, {127, 1}, {128, 2}, {6400, 100}, {11967, 186}, {11968, 187}, {12000, 187},
            {12031, 187}, {12032, 187}, {20000, 187}, {25000, 187}};
        for (int[] one : all) {
            CHECK.same("FUEL " + one[0], grownBy(one[0]), one[1]);
        }
    }

    // "(in STEPS of turn(), too, which look at no TOP; OFF does not matter)"
    private static void strokeOverTurnAndOff() {
        EngineControl x = oneCylinder(6400, 0);
        x.calibrate(1, 1860);
        x.key(true);
        x.turn(240, 4000);
        // Beyond the TOP: injector and SPARK came in STEPS of turn(), the TOP was passed by turn().
        x.turn(60, 4000);
        CHECK.same("an injection", x.about(64), 6400);
        CHECK.same("a SPARK", x.about(15), 1);
        CHECK.same("RPM", x.about(44), 0);
        x.cut(0);
        x.turn(90, 4000);
        CHECK.same("place 30", x.about(45), 30);
        x.run(1);
        CHECK.same("the stroke is felt at the next TOP of run()", x.about(44), 350);
        x.turn(119, 4000);
        x.run(1);
        CHECK.same("once", x.about(44), 350);
    }

    // "RPM (0 at first, 9000 at most)": what a motor can reach stays below it
    private static void fastest() {
        EngineControl x = CarBoundsTest.fast();
        CHECK.yes("RPM", x.about(44) >= 6700 && x.about(44) <= 9000);
    }

    private static EngineControl auto() {
        EngineControl x = Rig.on();
        x.set(1, true);
        return x;
    }

    // "FLAP (60 at first) goes by 10 at most to 60 if in the LOOP before THROTTLE was without power"
    private static void flapGoesToSixty() {
        EngineControl x = new EngineControl();
        x.calibrate(16, 50);
        x.calibrate(18, 1000);
        constant(x, 0, 1000);
        constant(x, 1, 1000);
        x.set(1, true);
        x.key(true);
        CHECK.same("60 at first", x.about(46), 60);
        Rig.loops(x, 1);
        CHECK.same("without power before", x.about(46), 60);
        Rig.loops(x, 3);
        CHECK.same("by 50 for each", x.about(46), 210);
        x.key(false);
        Rig.loops(x, 1);
        CHECK.same("with power in the LOOP before", x.about(46), 260);
        for (int due = 250; due >= 60; due -= 10) {
            Rig.loops(x, 1);
            CHECK.same("10 less", x.about(46), due);
        }
        Rig.loops(x, 1);
        CHECK.same("60 it stays", x.about(46), 60);
        // From below: 0, then by 10 up; the last way is shorter.
        EngineControl y = low(55);
        for (int due : new int[] {55, 60, 60}) {
            CHECK.same("up to 60", y.about(46), due);
            Rig.loops(y, 1);
        }
        EngineControl z = low(45);
        for (int due : new int[] {45, 55, 60, 60}) {
            CHECK.same("up to 60", z.about(46), due);
            Rig.loops(z, 1);
        }
    }

    /** FLAP is so much, and THROTTLE was without power in the LOOP before. */
    private static EngineControl low(int flap) {
        EngineControl x = new EngineControl();
        // DUTY is ERROR * P alone: PEDAL 0, PLATE as read from a LINE that makes it so.
        x.calibrate(16, 1);
        x.calibrate(17, 0);
        x.calibrate(18, 1000);
        constant(x, 0, 0);
        constant(x, 1, 0);
        constant(x, 2, 20 * (60 - flap));
        constant(x, 3, 20 * (60 - flap));
        x.set(1, true);
        x.key(true);
        Rig.loops(x, 1);
        x.key(false);
        Rig.loops(x, 1);
        return x;
    }

    // "else by DUTY / 20 (cut off)"
    private static void flapByDuty() {
        int[][] all = {{0, 0}, {19, 0}, {20, 1}, {39, 1}, {40, 2}, {999, 49}, {1000, 50}, {-19, 0}, {-20, -1}, {-39, -1},
            {-1000, -50}};
        for (int[] one : all) {
            EngineControl x = new EngineControl();
            x.calibrate(16, 1);
            x.calibrate(17, 0);
            x.calibrate(18, 1000);
            constant(x, 0, Math.max(0, one[0]));
            constant(x, 1, Math.max(0, one[0]));
            constant(x, 2, Math.max(0, -one[0]));
            constant(x, 3, Math.max(0, -one[0]));
            x.set(1, true);
            x.key(true);
            Rig.loops(x, 1);
            CHECK.same("DUTY", x.about(25), one[0]);
            Rig.loops(x, 1);
            CHECK.same("FLAP by DUTY " + one[0], x.about(46), 60 + one[1]);
        }
    }

    // "cut to 0 .. 1000"
    private static void flapEnds() {
        EngineControl x = new EngineControl();
        x.calibrate(16, 50);
        x.calibrate(18, 1000);
        constant(x, 0, 1000);
        constant(x, 1, 1000);
        constant(x, 2, 0);
        constant(x, 3, 0);
        x.set(1, true);
        x.key(true);
        Rig.loops(x, 19);
        CHECK.same("960", x.about(46), 960);
        Rig.loops(x, 1);
        CHECK.same("1000", x.about(46), 1000);
        Rig.loops(x, 1);
        CHECK.same("1000 at most", x.about(46), 1000);
        EngineControl y = new EngineControl();
        y.calibrate(16, 50);
        y.calibrate(18, 1000);
        constant(y, 0, 0);
        constant(y, 1, 0);
        constant(y, 2, 900);
        constant(y, 3, 900);
        y.set(1, true);
        y.key(true);
        Rig.loops(y, 2);
        CHECK.same("10", y.about(46), 10);
        Rig.loops(y, 1);
        CHECK.same("0", y.about(46), 0);
        Rig.loops(y, 1);
        CHECK.same("0 at least", y.about(46), 0);
    }

    // "(.. at first so)": also behind OFF
    private static void flapAtFirst() {
        EngineControl x = new EngineControl();
        x.calibrate(16, 50);
        x.calibrate(18, 1000);
        constant(x, 0, 1000);
        constant(x, 1, 1000);
        x.set(1, true);
        x.key(true);
        Rig.loops(x, 4);
        CHECK.same("210", x.about(46), 210);
        x.cut(0);
        CHECK.same("FLAP stays", x.about(46), 210);
        x.key(true);
        Rig.loops(x, 1);
        CHECK.same("without power at first", x.about(46), 200);
        Rig.loops(x, 1);
        CHECK.same("with power", x.about(46), 250);
    }

    // "RAW of PLATE1 and PLATE2 is FLAP * 1023 / 1000"
    private static void pinsOfTheFlap() {
        EngineControl x = auto();
        Rig.loops(x, 1);
        CHECK.same("60 * 1023 / 1000", x.channel(2, 0), 61);
        CHECK.same("PLATE2", x.channel(3, 0), 61);
        EngineControl y = new EngineControl();
        y.calibrate(16, 50);
        y.calibrate(18, 1000);
        constant(y, 0, 1000);
        constant(y, 1, 1000);
        constant(y, 2, 0);
        constant(y, 3, 0);
        y.set(1, true);
        y.key(true);
        for (int i = 0; i < 21; i++) {
            Rig.loops(y, 1);
            CHECK.same("PLATE1", y.channel(2, 0), y.about(46) * 1023 / 1000);
            CHECK.same("PLATE2", y.channel(3, 0), y.about(46) * 1023 / 1000);
            long p = 30 + y.about(46) * 70 / 1000;
            CHECK.same("PRESSURE", y.channel(4, 0), (p - 10) * 1023 / 100);
        }
        CHECK.same("1023", y.channel(2, 0), 1023);
        CHECK.same("PRESSURE", y.channel(4, 0), 90 * 1023 / 100);
    }

    // "p being the greater of 12 and 30 + FLAP * 70 / 1000 - RPM / 200"
    private static void pressureEnds() {
        EngineControl x = rpm(200);
        x.set(1, true);
        x.key(true);
        Rig.toLoop(x);
        CHECK.same("34 - 1", x.channel(4, 0), 23 * 1023 / 100);
        EngineControl y = rpm(199);
        y.set(1, true);
        y.key(true);
        Rig.toLoop(y);
        CHECK.same("34 - 0", y.channel(4, 0), 24 * 1023 / 100);
        EngineControl fast = CarBoundsTest.fast();
        fast.set(1, true);
        fast.cut(0);
        fast.key(true);
        Rig.toLoop(fast);
        CHECK.same("12 at least", fast.channel(4, 0), 2 * 1023 / 100);
        CHECK.yes("34 - RPM / 200 is less", 34 - fast.about(44) / 200 < 12);
    }

    // "If LOOPS is a multiple of 50: HEAT (20 at first) is .."
    private static void heatAtFifty() {
        EngineControl x = hot(450);
        long heat = x.about(47);
        Rig.loops(x, 49 - (int) x.about(11) % 50);
        CHECK.same("LOOPS", x.about(11) % 50, 49);
        CHECK.same("not yet", x.about(47), heat);
        Rig.loops(x, 1);
        CHECK.same("at 50", x.about(47), heat + 1);
        Rig.loops(x, 49);
        CHECK.same("not before 100", x.about(47), heat + 1);
        Rig.loops(x, 1);
        CHECK.same("at 100", x.about(47), heat + 2);
        EngineControl cold = auto();
        Rig.loops(cold, 200);
        CHECK.same("20 at least", cold.about(47), 20);
    }

    /** RPM is this, by strokes and a LOAD; OFF and ON again, at a multiple of 10,000, AUTO. */
    private static EngineControl hot(int rpm) {
        EngineControl x = oneCylinder(12800, 0);
        x.calibrate(1, 1860);
        x.calibrate(14, 140);
        x.key(true);
        x.run(240);
        x.run(31);
        // 250 and 187 by the first stroke; more by the second one.
        x.run(120);
        x.cut(0);
        x.set(0, false);
        int now = (int) x.about(44);
        while (now - now / 64 - rpm > 100) {
            x.load(400);
            x.run((int) (10 - x.about(45) % 10));
            now = (int) x.about(44);
        }
        x.load(4 * (now - now / 64 - rpm));
        x.run((int) (10 - x.about(45) % 10));
        CHECK.same("RPM", x.about(44), rpm);
        x.load(0);
        x.set(1, true);
        x.pass((int) (10000 - x.about(0) % 10000));
        x.key(true);
        return x;
    }

    // "1 more (130 at most) if RPM is 400 or more, else 1 less (20 at least)"
    private static void heatByRpm() {
        EngineControl x = hot(400);
        Rig.loops(x, 50);
        CHECK.same("RPM 400", x.about(47), 21);
        EngineControl y = hot(399);
        Rig.loops(y, 50);
        CHECK.same("RPM 399", y.about(47), 20);
        x.set(0, false);
        // It slows down below 400: 1 less.
        x.load(4);
        x.run(10);
        CHECK.yes("RPM", x.about(44) < 400);
        long loops = x.about(11);
        Rig.loops(x, 50);
        CHECK.same("a multiple of 50 was passed", x.about(11) / 50, loops / 50 + 1);
        CHECK.same("20 again", x.about(47), 20);
        Rig.loops(x, 50);
        CHECK.same("20 at least", x.about(47), 20);
    }

    private static void heatEnds() {
        EngineControl x = hot(500);
        for (int i = 0; i < 27; i++) {
            x.pass(2000000);
        }
        CHECK.same("20 and 108", x.about(47), 128);
        Rig.loops(x, 50);
        CHECK.same("129", x.about(47), 129);
        Rig.loops(x, 50);
        CHECK.same("130", x.about(47), 130);
        CHECK.same("COOLANT's RAW", x.channel(5, 0), 10 * 1023 / 180);
        Rig.loops(x, 50);
        CHECK.same("130 at most", x.about(47), 130);
    }

    // "then 2 less if FAN 1 runs and it is above 60"
    private static void heatByFan() {
        // FAN 1 runs by a LINE that makes COOLANT 140, whatever HEAT is.
        EngineControl x = new EngineControl();
        constant(x, 5, 140);
        x.key(true);
        x.set(1, true);
        Rig.loops(x, 49);
        CHECK.same("FANS", x.about(30), 3);
        Rig.loops(x, 1);
        CHECK.same("20 is not above 60", x.about(47), 20);
        EngineControl y = oneCylinder(12800, 0);
        constant(y, 5, 140);
        y.calibrate(6, 9000);
        y.calibrate(1, 1860);
        y.key(true);
        y.run(240);
        y.run(31);
        y.run(120);
        CHECK.yes("RPM", y.about(44) >= 400);
        y.set(1, true);
        // Up by 1 for each 50 LOOPS till 60; then 61 is 59.
        while (y.about(47) < 59) {
            Rig.loops(y, Math.max(1, 50 - (int) y.about(11) % 50));
        }
        Rig.loops(y, 50);
        CHECK.same("60 is not above 60", y.about(47), 60);
        Rig.loops(y, 50);
        CHECK.same("61 is: 2 less", y.about(47), 59);
        Rig.loops(y, 50);
        CHECK.same("60", y.about(47), 60);
    }

    // "RAW of COOLANT is (140 - HEAT) * 1023 / 180"
    private static void coolantPin() {
        EngineControl x = auto();
        Rig.loops(x, 1);
        CHECK.same("HEAT 20", x.channel(5, 0), 120 * 1023 / 180);
        CHECK.same("VALUE", x.channel(5, 1), 20);
        EngineControl y = hot(450);
        for (int i = 0; i < 12; i++) {
            Rig.loops(y, 50);
            CHECK.same("RAW", y.channel(5, 0), (140 - y.about(47)) * 1023 / 180);
        }
    }

    // "RPM below 250, it is 250": 252 shrinks to 249
    private static void starterAt249() {
        EngineControl x = oneCylinder(128, 0);
        x.calibrate(1, 1860);
        x.key(true);
        x.run(240);
        x.run(31);
        CHECK.same("250 and 128 / 64", x.about(44), 252);
        x.run(9);
        CHECK.same("252 - 3", x.about(44), 249);
        x.run(1);
        CHECK.same("250", x.about(44), 250);
    }

    // "if since it was so before its injector went on .. and its coil gave a SPARK": what was felt is gone
    private static void strokeIsFeltOnce() {
        // SHUT: SPARKS come, but no injections.
        EngineControl x = oneCylinder(6400, 0);
        x.calibrate(1, 1860);
        x.key(true);
        x.run(240);
        x.run(31);
        CHECK.same("a stroke", x.about(44), 350);
        x.watch(true);
        x.run(110);
        x.run(120);
        CHECK.same("SHUT", x.about(28), 1);
        long used = x.about(64);
        long sparks = x.about(15);
        while (x.about(45) != 30) {
            x.run(1);
        }
        x.run(120);
        long before = x.about(44);
        CHECK.same("no injection", x.about(64), used);
        CHECK.yes("SPARKS", x.about(15) > sparks);
        x.run(1);
        CHECK.same("place 31", x.about(45), 31);
        CHECK.same("a SPARK alone", x.about(44), Math.max(250, before));
        // A low BATTERY: the coil is cut off before its SPARK, but injections come.
        EngineControl y = oneCylinder(6400, 0);
        y.calibrate(1, 1860);
        y.line(8, 0, 80, 1023, 200);
        y.line(12, 80, 20000, 160, 2500);
        y.pin(8, 900);
        y.key(true);
        y.run(240);
        y.run(31);
        CHECK.same("a stroke", y.about(44), 350);
        y.pin(8, 20);
        y.run(119);
        y.run(120);
        sparks = y.about(15);
        used = y.about(64);
        before = y.about(44);
        CHECK.same("place 30", y.about(45), 30);
        CHECK.yes("a CUTOFF", y.about(16) > 0);
        y.run(1);
        CHECK.same("an injection alone", y.about(44), Math.max(250, before));
        y.run(120);
        CHECK.yes("injections", y.about(64) > used);
        CHECK.same("no SPARKS", y.about(15), sparks);
    }

    // "if WHERE is TOP / 60 of a cylinder"
    private static void topsOfEachPlace() {
        int[][] all = {{0, 0}, {59, 0}, {60, 1}, {3599, 59}, {3600, 60}, {5459, 90}, {5460, 91}, {7199, 119}};
        for (int[] one : all) {
            EngineControl x = oneCylinder(6400, 0);
            x.calibrate(1, one[0]);
            x.key(true);
            x.run(135);
            // PLANNED 30 places before: in this round, or in the next one.
            x.run(one[1] < 46 ? 104 + one[1] : one[1] - 16);
            CHECK.yes("not before", x.about(44) <= 250);
            x.run(1);
            CHECK.same("WHERE", x.about(45), one[1]);
            CHECK.yes("a stroke at TOP " + one[0], x.about(44) > 300);
        }
    }

    // "30 + FLAP * 70 / 1000": by 1 for each LOOP
    private static void pressureByTheFlap() {
        EngineControl x = new EngineControl();
        x.calibrate(16, 1);
        x.calibrate(17, 0);
        x.calibrate(18, 1000);
        constant(x, 0, 20);
        constant(x, 1, 20);
        constant(x, 2, 0);
        constant(x, 3, 0);
        x.set(1, true);
        x.key(true);
        Rig.loops(x, 1);
        for (int flap = 61; flap < 200; flap++) {
            Rig.loops(x, 1);
            CHECK.same("PLATE1 at FLAP " + flap, x.channel(2, 0), flap * 1023 / 1000);
            CHECK.same("PRESSURE at FLAP " + flap, x.channel(4, 0), (20 + flap * 70 / 1000) * 1023 / 100);
        }
    }

    private static void withoutAuto() {
        EngineControl x = Rig.on();
        Rig.loops(x, 60);
        for (int channel = 2; channel <= 5; channel++) {
            CHECK.same("pins stay", x.channel(channel, 0), 512);
        }
        CHECK.same("FLAP", x.about(46), 60);
        x.set(1, true);
        CHECK.same("not before the LOOP", x.channel(2, 0), 512);
        Rig.loops(x, 1);
        CHECK.same("AUTO", x.channel(2, 0) < 512 ? 1 : 0, 1);
        for (int channel : new int[] {0, 1, 6, 7, 8, 9}) {
            CHECK.same("other pins stay", x.channel(channel, 0), 512);
        }
        x.set(1, false);
        x.pin(2, 700);
        Rig.loops(x, 1);
        CHECK.same("no AUTO", x.channel(2, 0), 700);
    }
}
