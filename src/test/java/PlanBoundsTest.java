/** Boundary cases of 'PLANS, EVENTS, EDGES'. */
public final class PlanBoundsTest {
    private static final Check CHECK = new Check();

    public static void main(String[] args) {
        topsAndBegins();
        whichEdgeStandsForBegin();
        cuttingEnds();
        whichLimit();
        nowLimitBeforeFull();
        missByAnEighth();
        missNeedsTwoSegments();
        segmentsToTwoHundred();
        missesAboveRough();
        missesOfTheOneBefore();
        retardEnds();
        knockingItself();
        fuelZeroWaitsForNothing();
        fuelAboveZeroHasDead();
        fuelEnds();
        fuelOfRichAndTrim();
        fuelWhileShutOrBarred();
        advanceEnds();
        softBegins();
        rulesTakeOff();
        coilAngleEnds();
        waitsNoMore();
        injectorOnAlready();
        coilCutOff();
        cutOffOfAnEarlierRound();
        sixtyFourEvents();
        latestTwoHundredEdges();
        onlyWhileOn();
        eachAllOffEndsPlans();
        noSegmentOverAllOff();
        fuelOfShort();
        fuelOfEachEvent();
        coilsInTurnWhenFull();
        anglesGoRound();
        CHECK.end();
    }

    /** Values that do not move: COOLANT 90, BATTERY 130, PRESSURE 60; so WARMING 1000, DEAD 900, DWELL 3500. */
    private static EngineControl steady(int cylinders) {
        EngineControl x = new EngineControl();
        x.calibrate(0, cylinders);
        constant(x, 4, 60);
        constant(x, 5, 90);
        constant(x, 8, 130);
        // WARM above COOLANT: the mixture is not trimmed.
        x.calibrate(13, 120);
        return x;
    }

    private static void constant(EngineControl x, int line, int v) {
        x.line(line, -10000, v, 30000, v);
    }

    /** Turns until the next PLANNING has been made. */
    private static void plan(EngineControl x, int pitch) {
        long before = x.about(17);
        for (int i = 0; i < 121 && x.about(17) == before; i++) {
            x.turn(1, pitch);
        }
    }

    // "TOP of cylinder c is (FIRST + FLOOR(7200 c / CYLINDERS)) modulo 7200"
    private static void topsAndBegins() {
        for (int first : new int[] {0, 1, 600, 3599, 7199}) {
            EngineControl x = new EngineControl();
            x.calibrate(1, first);
            for (int cylinders = 1; cylinders <= 8; cylinders++) {
                x.calibrate(0, cylinders);
                for (int c = 0; c < cylinders; c++) {
                    CHECK.same("TOP " + c + " of " + cylinders, x.cylinder(c, 0), (first + 7200 * c / cylinders) % 7200);
                }
            }
        }
    }

    private static long angleOfPlanning(int first) {
        EngineControl x = steady(1);
        x.calibrate(1, first);
        x.key(true);
        Rig.toFull(x, 1000);
        plan(x, 1000);
        return 3600 * x.about(4) + 60 * x.about(3);
    }

    // "STANDS FOR the angles from ANGLE on up to the next tooth's (60, at TOOTH 57 180)", BEGIN modulo 7200
    private static void whichEdgeStandsForBegin() {
        int[][] all = {{3000, 1200}, {2999, 1140}, {3059, 1200}, {3060, 1260}, {5219, 3360}, {5220, 3420}, {5280, 3420},
            {5399, 3420}, {5400, 3600}, {1619, 6960}, {1620, 7020}, {1799, 7020}, {1800, 0}, {1859, 0}, {1860, 60},
            {0, 5400}, {7199, 5340}};
        for (int[] one : all) {
            CHECK.same("FIRST " + one[0], angleOfPlanning(one[0]), one[1]);
        }
    }

    // "CUTTING begins when SPEED is NOWLIMIT or more, and ends when it is below NOWLIMIT - 200"
    private static void cuttingEnds() {
        EngineControl x = steady(4);
        x.calibrate(5, 1000);
        x.key(true);
        Rig.toFull(x, 1001);
        x.turn(1, 1001);
        CHECK.same("SPEED", x.about(6), 999);
        CHECK.same("SPEED 999", x.about(19), 0);
        x.turn(1, 1000);
        CHECK.same("SPEED 1000", x.about(19), 1);
        x.turn(1, 1001);
        CHECK.same("999 again", x.about(19), 1);
        x.turn(1, 1250);
        CHECK.same("SPEED", x.about(6), 800);
        CHECK.same("SPEED 800", x.about(19), 1);
        x.turn(1, 1251);
        CHECK.same("SPEED", x.about(6), 799);
        CHECK.same("SPEED 799", x.about(19), 0);
        x.turn(1, 1250);
        CHECK.same("800 again", x.about(19), 0);
    }

    // "NOWLIMIT is LIMPLIMIT if it is in LIMP, else HOTLIMIT if it is HOT, else LIMIT."
    private static void whichLimit() {
        for (int hot = 0; hot <= 1; hot++) {
            for (int limp = 0; limp <= 1; limp++) {
                EngineControl x = new EngineControl();
                x.calibrate(5, 3001);
                x.calibrate(6, 3002);
                x.calibrate(7, 3003);
                constant(x, 5, 90 + 30 * hot);
                x.pin(2, 500 + 200 * limp);
                x.pin(3, 500);
                x.key(true);
                x.turn(240, 1000);
                CHECK.same("HOT", x.about(29), hot);
                CHECK.same("LIMP", x.about(27), limp);
                CHECK.same("NOWLIMIT", x.about(18), limp == 1 ? 3003 : hot == 1 ? 3002 : 3001);
            }
        }
    }

    // "(18; 0 before the first edge in FULL)"
    private static void nowLimitBeforeFull() {
        EngineControl x = Rig.on();
        Rig.toFull(x, 1000);
        CHECK.same("FULL", x.about(2), EngineControl.FULL);
        CHECK.same("the cam edge is none", x.about(18), 0);
        x.turn(1, 1000);
        CHECK.same("NOWLIMIT", x.about(18), 6500);
    }

    /** Eight cylinders: a segment is 15 places. Two of 15 * 1000 ticks, then one of so many. */
    private static int missesBehind(int ticks) {
        EngineControl x = steady(8);
        x.key(true);
        Rig.toFull(x, 1000);
        plan(x, 1000);
        x.turn(15, 1000);
        x.turn(15, 1000);
        CHECK.same("three PLANNINGS", x.about(17), 3);
        int part = ticks / 15;
        x.turn(14, part);
        x.turn(1, ticks - 14 * part);
        CHECK.same("four PLANNINGS", x.about(17), 4);
        int misses = 0;
        for (int c = 0; c < 8; c++) {
            misses += x.cylinder(c, 2);
        }
        return misses;
    }

    // "S is above S0 + S0 / 8 (cut off)"
    private static void missByAnEighth() {
        CHECK.same("15000, then 16875", missesBehind(16875), 0);
        CHECK.same("15000, then 16876", missesBehind(16876), 1);
        CHECK.same("15000, then 15000", missesBehind(15000), 0);
        CHECK.same("15000, then 20000", missesBehind(20000), 1);
    }

    // "if both are known": the first two segments behind FULL tell nothing
    private static void missNeedsTwoSegments() {
        EngineControl x = steady(8);
        x.key(true);
        Rig.toFull(x, 1000);
        plan(x, 1000);
        x.turn(15, 1500);
        x.turn(15, 1500);
        x.turn(15, 1500);
        int misses = 0;
        for (int c = 0; c < 8; c++) {
            misses += x.cylinder(c, 2);
        }
        CHECK.same("S0 was not known", misses, 0);
        x.turn(15, 2200);
        for (int c = 0; c < 8; c++) {
            misses += x.cylinder(c, 2);
        }
        CHECK.same("now it is", misses, 1);
    }

    // "SEGMENTS grows by 1; at 200 it is 0, and a trouble test of each cylinder c is made"
    private static void segmentsToTwoHundred() {
        EngineControl x = steady(8);
        x.key(true);
        Rig.toFull(x, 1000);
        plan(x, 1000);
        CHECK.same("one", x.about(17), 1);
        for (int i = 0; i < 12; i++) {
            x.turn(240, 1000);
        }
        x.turn(90, 1000);
        CHECK.same("199", x.about(17), 199);
        CHECK.same("no test yet", x.trouble(20, 0), 0);
        x.turn(15, 1000);
        CHECK.same("200 is 0", x.about(17), 0);
        for (int c = 0; c < 8; c++) {
            CHECK.same("MISFIRE " + c + " passes", x.trouble(20 + c, 0), -4);
        }
        x.turn(15, 1000);
        CHECK.same("one again", x.about(17), 1);
        EngineControl y = steady(3);
        y.key(true);
        Rig.toFull(y, 1000);
        for (int i = 0; i < 34; i++) {
            y.turn(240, 1000);
        }
        CHECK.same("SEGMENTS", y.about(17), 4);
        CHECK.same("the last cylinder", y.trouble(22, 0), -4);
        CHECK.same("none is beyond it", y.trouble(23, 0), 0);
    }

    /** One cylinder of eight has so many MISSES when 200 segments are full. */
    private static EngineControl rough(int misses, int rough) {
        EngineControl x = steady(8);
        x.calibrate(20, rough);
        x.calibrate(2, 2000000);
        x.key(true);
        Rig.toFull(x, 1000);
        plan(x, 1000);
        x.turn(120, 1000);
        for (int i = 0; i < misses; i++) {
            x.turn(15, 1200);
            x.turn(105, 1000);
        }
        for (int left = 24 - misses; left > 0; left--) {
            x.turn(left == 1 ? 105 : 120, 1000);
        }
        return x;
    }

    // "MISFIRE c fails if its MISSES are above ROUGH, else it passes; all MISSES are 0 then"
    private static void missesAboveRough() {
        for (int misses = 2; misses <= 3; misses++) {
            EngineControl x = rough(misses, 2);
            CHECK.same("SEGMENTS", x.about(17), 0);
            int failed = 0;
            int passed = 0;
            for (int c = 0; c < 8; c++) {
                failed += x.trouble(20 + c, 0) == 32 ? 1 : 0;
                passed += x.trouble(20 + c, 0) == -4 ? 1 : 0;
                CHECK.same("MISSES are 0", x.cylinder(c, 2), 0);
            }
            CHECK.same(misses + " MISSES by ROUGH 2", failed, misses - 2);
            CHECK.same("the others pass", passed, 10 - misses);
        }
    }

    // "the cylinder that was PLANNED before has one MISS more"
    private static void missesOfTheOneBefore() {
        EngineControl x = steady(8);
        x.key(true);
        Rig.toFull(x, 1000);
        // BEGIN of cylinder 2 is 600, of 3 it is 1500: at place 25.
        x.turn(10, 1000);
        CHECK.same("cylinder 3 is PLANNED", x.cylinder(3, 7) & 4, 4);
        CHECK.same("SEGMENTS", x.about(17), 1);
        x.turn(15, 1000);
        x.turn(15, 1000);
        x.turn(15, 1200);
        CHECK.same("cylinder 6 was PLANNED now", x.cylinder(6, 7) & 4, 4);
        CHECK.same("the MISS is of 5", x.cylinder(5, 2), 1);
        CHECK.same("none of 6", x.cylinder(6, 2), 0);
        CHECK.same("none of 4", x.cylinder(4, 2), 0);
        x.turn(15, 1200);
        x.turn(15, 1400);
        CHECK.same("1350 is the edge: a MISS of 7", x.cylinder(7, 2), 1);
        x.turn(15, 1700);
        CHECK.same("and of 0", x.cylinder(0, 2), 1);
    }

    // "RETARD of the cylinder: BACK more (150 at most) .. else 1 less (0 at least)"
    private static void retardEnds() {
        EngineControl x = steady(1);
        x.calibrate(22, 75);
        x.key(true);
        Rig.toFull(x, 1000);
        plan(x, 1000);
        CHECK.same("0 at least", x.cylinder(0, 1), 0);
        x.pin(9, 700);
        x.turn(120, 1000);
        CHECK.same("BACK", x.cylinder(0, 1), 75);
        x.turn(120, 1000);
        CHECK.same("150", x.cylinder(0, 1), 150);
        x.turn(120, 1000);
        CHECK.same("150 at most", x.cylinder(0, 1), 150);
        x.pin(9, 100);
        x.turn(120, 1000);
        CHECK.same("1 less", x.cylinder(0, 1), 149);
        EngineControl y = steady(1);
        y.calibrate(22, 1);
        y.pin(9, 700);
        y.key(true);
        Rig.toFull(y, 1000);
        plan(y, 1000);
        CHECK.same("BACK 1", y.cylinder(0, 1), 1);
        y.pin(9, 0);
        y.turn(120, 1000);
        CHECK.same("0", y.cylinder(0, 1), 0);
        y.turn(120, 1000);
        CHECK.same("0 still", y.cylinder(0, 1), 0);
    }

    // "if KNOCK is KNOCKING or more"
    private static void knockingItself() {
        for (int raw = 599; raw <= 601; raw++) {
            EngineControl x = steady(1);
            x.pin(9, raw);
            x.key(true);
            Rig.toFull(x, 1000);
            plan(x, 1000);
            CHECK.same("KNOCK", x.channel(9, 1), raw);
            CHECK.same("RETARD by KNOCK " + raw, x.cylinder(0, 1), raw >= 600 ? 20 : 0);
        }
        EngineControl zero = steady(1);
        zero.calibrate(21, 0);
        zero.pin(9, 0);
        zero.key(true);
        Rig.toFull(zero, 1000);
        plan(zero, 1000);
        CHECK.same("KNOCKING 0", zero.cylinder(0, 1), 20);
    }

    /** FUEL of the first plan by this cell, WARMING and DEAD. */
    private static EngineControl fuel(int cell, int warming, int dead) {
        EngineControl x = steady(1);
        Rig.everyCell(x, 0, cell);
        constant(x, 10, warming);
        constant(x, 11, dead);
        x.key(true);
        Rig.toFull(x, 1000);
        plan(x, 1000);
        return x;
    }

    // "INJECT waits for the angle BEGIN + INJECTION, if FUEL is above 0"
    private static void fuelZeroWaitsForNothing() {
        EngineControl none = fuel(0, 1000, 900);
        CHECK.same("v 0 has no DEAD", none.cylinder(0, 5), 0);
        CHECK.same("COIL and SPARK wait", none.cylinder(0, 7), 6);
        EngineControl one = fuel(1, 1000, 0);
        CHECK.same("FUEL 1", one.cylinder(0, 5), 1);
        CHECK.same("all wait", one.cylinder(0, 7), 7);
        one.turn(30, 1000);
        CHECK.same("on and off", one.edge(1, 0) - one.edge(0, 0), 1);
        CHECK.same("USED", one.about(64), 1);
    }

    // "if it is above 0, DEAD more; then 0 .. 25000 (cut to the ends)"
    private static void fuelAboveZeroHasDead() {
        CHECK.same("1 and DEAD", fuel(1, 1000, 900).cylinder(0, 5), 901);
        CHECK.same("FLOOR(1 * 999 / 1000) is 0", fuel(1, 999, 900).cylinder(0, 5), 0);
        CHECK.same("FLOOR(1 * 1999 / 1000) is 1", fuel(1, 1999, 900).cylinder(0, 5), 901);
        CHECK.same("below 0", fuel(1, -1, 900).cylinder(0, 5), 0);
        CHECK.same("far below 0", fuel(20000, -10000, 30000).cylinder(0, 5), 0);
    }

    private static void fuelEnds() {
        CHECK.same("24999", fuel(20000, 1000, 4999).cylinder(0, 5), 24999);
        CHECK.same("25000", fuel(20000, 1000, 5000).cylinder(0, 5), 25000);
        CHECK.same("25001", fuel(20000, 1000, 5001).cylinder(0, 5), 25000);
        CHECK.same("the most there is", fuel(20000, 30000, 30000).cylinder(0, 5), 25000);
        CHECK.same("DEAD takes all", fuel(10000, 1000, -10000).cylinder(0, 5), 0);
        CHECK.same("and more", fuel(9999, 1000, -10000).cylinder(0, 5), 0);
        EngineControl x = fuel(10000, 1000, -9999);
        CHECK.same("all but 1", x.cylinder(0, 5), 1);
        CHECK.same("it waits", x.cylinder(0, 7) & 1, 1);
    }

    // "v = FLOOR(v * (1000 + RICH) / 1000); v = FLOOR(v * (1000 + SHORT + LONG of the cell at hand) / 1000)"
    private static void fuelOfRichAndTrim() {
        for (int trim : new int[] {-100, -99, 0, 99, 100}) {
            EngineControl x = steady(1);
            Rig.everyCell(x, 0, 1111);
            // Cell 2: SPEED 1000 is below 1500, PRESSURE 60.
            Rig.store(x, 0, 1, 39, trim, 38, 55, 40, 55);
            x.key(true);
            Rig.toFull(x, 1000);
            plan(x, 1000);
            CHECK.same("LONG " + trim, x.cylinder(0, 5), 1111 * (1000 + trim) / 1000 + 900);
            CHECK.same("LONG told", x.about(34), trim);
        }
        EngineControl x = steady(1);
        Rig.everyCell(x, 0, 1111);
        x.calibrate(1, 2700);
        x.pin(2, 200);
        x.pin(3, 200);
        x.key(true);
        Rig.toFull(x, 1000);
        x.pin(2, 300);
        x.pin(3, 300);
        // BEGIN is 900 + 7200: it comes at place 15 again, behind 12 LOOPS.
        x.turn(110, 1000);
        x.pin(2, 400);
        x.pin(3, 400);
        x.turn(10, 1000);
        CHECK.yes("RICH", x.about(22) > 100);
        CHECK.same("SHORT", x.about(32), 0);
        CHECK.same("FUEL", x.cylinder(0, 5), 1111 * (1000 + x.about(22)) / 1000 + 900);
    }

    // "but 0 while CUTTING, SHUT or BARRED (the LOCK)"
    private static void fuelWhileShutOrBarred() {
        EngineControl barred = steady(1);
        barred.lock(5);
        barred.key(true);
        Rig.toFull(barred, 1000);
        plan(barred, 1000);
        CHECK.same("BARRED", barred.cylinder(0, 5), 0);
        CHECK.same("COIL and SPARK wait", barred.cylinder(0, 7), 6);
        EngineControl shut = steady(1);
        shut.key(true);
        shut.watch(true);
        Rig.loops(shut, 30);
        CHECK.same("SHUT", shut.about(28), 1);
        Rig.toFull(shut, 1000);
        plan(shut, 1000);
        CHECK.same("SHUT", shut.cylinder(0, 5), 0);
        EngineControl cutting = steady(1);
        cutting.calibrate(5, 1000);
        cutting.key(true);
        Rig.toFull(cutting, 1000);
        plan(cutting, 1000);
        CHECK.same("CUTTING", cutting.cylinder(0, 5), 0);
        CHECK.same("not CUTTING", fuel(1000, 1000, 0).cylinder(0, 5), 1000);
    }

    private static EngineControl advance(int cell, int pitch, String rules) {
        EngineControl x = steady(1);
        x.calibrate(5, 1000);
        Rig.everyCell(x, 1, cell);
        Rig.build(x, rules);
        x.key(true);
        Rig.toFull(x, pitch);
        plan(x, pitch);
        return x;
    }

    // "cut to -100 .. 450"
    private static void advanceEnds() {
        CHECK.same("450", advance(450, 2000, "a=0").cylinder(0, 6), 450);
        CHECK.same("-100", advance(-100, 2000, "a=0").cylinder(0, 6), -100);
        CHECK.same("-99, 1 off", advance(-99, 2000, "b=1").cylinder(0, 6), -100);
        CHECK.same("-99, 2 off", advance(-99, 2000, "b=2").cylinder(0, 6), -100);
        CHECK.same("-100, 200 off", advance(-100, 2000, "b=200").cylinder(0, 6), -100);
    }

    // "less SOFT: FLOOR((SPEED - NOWLIMIT + 300) / 4) if that is above 0"
    private static void softBegins() {
        int[][] all = {{1429, 699, 0}, {1428, 700, 0}, {1422, 703, 0}, {1420, 704, 1}, {1412, 708, 2}, {1414, 707, 1},
            {1001, 999, 74}, {1000, 1000, 75}, {500, 2000, 325}};
        for (int[] one : all) {
            EngineControl x = advance(300, one[0], "a=0");
            CHECK.same("SPEED", x.about(6), one[1]);
            CHECK.same("ADVANCE at SPEED " + one[1], x.cylinder(0, 6), Math.max(-100, 300 - one[2]));
        }
    }

    // "less b of the RULES (0 .. 200)"
    private static void rulesTakeOff() {
        int[][] all = {{-5, 0}, {-1, 0}, {0, 0}, {1, 1}, {199, 199}, {200, 200}, {201, 200}, {99999, 200}};
        for (int[] one : all) {
            EngineControl x = advance(300, 2000, "b=0-" + -one[0]);
            if (one[0] >= 0) {
                x = advance(300, 2000, "b=" + one[0]);
            }
            CHECK.same("b " + one[0], x.cylinder(0, 6), 300 - one[1]);
        }
    }

    /** At PITCH 600 a tenth of a degree is 10 ticks: how long the coil was on. */
    private static long coilTicks(int dwell, int most) {
        EngineControl x = steady(1);
        x.calibrate(4, most);
        Rig.everyCell(x, 0, 0);
        constant(x, 12, dwell);
        x.key(true);
        Rig.toFull(x, 600);
        x.turn(240, 600);
        int i = 0;
        while (x.edge(i, 1) != 2) {
            i++;
        }
        CHECK.yes("it went off", x.edge(i + 1, 1) >= 3);
        return x.edge(i + 1, 0) - x.edge(i, 0);
    }

    // "COIL for SPARK's less the lesser of 1200 and FLOOR(DWELL * 60 / PITCH)"
    private static void coilAngleEnds() {
        CHECK.same("1199", coilTicks(11990, 20000), 11990);
        CHECK.same("1199.9", coilTicks(11999, 20000), 11990);
        CHECK.same("1200", coilTicks(12000, 20000), 12000);
        CHECK.same("1201", coilTicks(12010, 20000), 12000);
        CHECK.same("3000", coilTicks(30000, 20000), 12000);
        CHECK.same("the least DWELL", coilTicks(100, 20000), 100);
    }

    // "what waited for this cylinder waits no more"; an angle in the past of the plan waits for the next round
    private static void waitsNoMore() {
        EngineControl x = steady(1);
        x.calibrate(3, 1400);
        x.key(true);
        Rig.toFull(x, 1000);
        plan(x, 1000);
        CHECK.same("all wait", x.cylinder(0, 7), 7);
        x.turn(22, 1000);
        CHECK.same("INJECT at 1400: not yet", x.cylinder(0, 7) & 1, 1);
        x.turn(1, 1000);
        CHECK.same("INJECT waits no more", x.cylinder(0, 7) & 1, 0);
        CHECK.same("it is an EVENT", x.about(12) > 0 ? 1 : 0, 1);
        x.turn(40, 1000);
        CHECK.same("nothing waits", x.cylinder(0, 7), 0);
    }

    // "INJECT: an injector that is off goes on": one that is on stays so, by the plan by which it went on
    private static void injectorOnAlready() {
        EngineControl x = steady(1);
        x.calibrate(5, 9000);
        Rig.everyCell(x, 0, 20000);
        constant(x, 11, 5000);
        x.key(true);
        Rig.toFull(x, 112);
        x.turn(240, 112);
        x.turn(240, 112);
        x.turn(240, 112);
        int begun = 0;
        long on = 0;
        for (int i = 0; i < x.about(14); i++) {
            if (x.edge(i, 1) == 0) {
                begun++;
                on = x.edge(i, 0);
            } else if (x.edge(i, 1) == 1) {
                CHECK.same("it was on for FUEL ticks", x.edge(i, 0) - on, 25000);
            }
        }
        // Six rounds of 13440 ticks; each injection of 25000 takes two of them.
        CHECK.same("every other INJECT", begun, 3);
        CHECK.same("USED", x.about(64), 75000);
    }

    // "an EVENT is put behind DWELLMOST ticks by which it, if it is on still since then, goes off: CUTOFFS grows by 1"
    private static void coilCutOff() {
        CHECK.same("DWELL below DWELLMOST", coilTicks(7990, 8000), 7990);
        CHECK.same("DWELL is DWELLMOST", coilTicks(8000, 8000), 8000);
        CHECK.same("DWELL above DWELLMOST", coilTicks(8010, 8000), 8000);
        CHECK.same("the least DWELLMOST", coilTicks(5000, 1000), 1000);
        int[][] all = {{7990, 0}, {8000, 1}, {8010, 1}};
        for (int[] one : all) {
            EngineControl x = steady(1);
            constant(x, 12, one[0]);
            x.key(true);
            Rig.toFull(x, 600);
            x.turn(240, 600);
            // At one time the cutoff, which was put first, goes first; the SPARK finds a coil that is off.
            CHECK.yes("CUTOFFS by DWELL " + one[0], x.about(16) > 0 == (one[1] == 1));
            CHECK.yes("SPARKS by DWELL " + one[0], x.about(15) > 0 == (one[1] == 0));
        }
    }

    // "if it is on still since then": the cutoff of a round that had its SPARK does nothing to the next one
    private static void cutOffOfAnEarlierRound() {
        EngineControl x = steady(1);
        x.calibrate(4, 20000);
        x.calibrate(5, 9000);
        constant(x, 12, 18000);
        x.key(true);
        // A round is 19200 ticks, the coil is on for 3200 of them (1200 tenths).
        Rig.toFull(x, 160);
        for (int i = 0; i < 6; i++) {
            x.turn(240, 160);
        }
        CHECK.same("no CUTOFFS", x.about(16), 0);
        CHECK.yes("SPARKS", x.about(15) >= 11);
        for (int i = 0; i < x.about(14); i++) {
            CHECK.yes("no coil off otherwise", x.edge(i, 1) != 4);
        }
    }

    // "EVENTS, 64 at most (one more is not put: OVER grows by 1 ..)"
    private static void sixtyFourEvents() {
        EngineControl x = new EngineControl();
        x.calibrate(0, 8);
        x.calibrate(4, 20000);
        x.key(true);
        // A round is 2400 ticks, a coil's cutoff stays for 20000.
        int steps = 0;
        while (steps < 30 && x.about(13) == 0) {
            x.turn(120, 20);
            steps++;
        }
        EngineControl y = new EngineControl();
        y.calibrate(0, 8);
        y.calibrate(4, 20000);
        y.key(true);
        for (int i = 0; i < steps - 1; i++) {
            y.turn(120, 20);
        }
        long before = 0;
        for (int i = 0; i < 120 && y.about(13) == 0; i++) {
            before = y.about(12);
            y.turn(1, 20);
        }
        CHECK.yes("it was nearly full", before >= 62);
        CHECK.same("64 EVENTS", y.about(12), 64);
        CHECK.same("OVER", y.about(13), 1);
    }

    // "THE LOG has each EDGE ..; the latest 200."
    private static void latestTwoHundredEdges() {
        EngineControl x = steady(8);
        x.key(true);
        Rig.toFull(x, 1000);
        while (x.about(14) < 170) {
            x.turn(30, 1000);
        }
        while (x.about(14) < 199) {
            x.turn(1, 1000);
        }
        int has = (int) x.about(14);
        CHECK.yes("199 or 200", has <= 200);
        CHECK.noSuch("one behind the last", () -> x.edge(has, 0));
        long first = x.edge(0, 0);
        while (x.about(14) <= 200) {
            x.turn(1, 1000);
        }
        int gone = (int) x.about(14) - 200;
        CHECK.yes("the oldest is gone", x.edge(0, 0) > first || x.edge(0, 1) > 0);
        CHECK.noSuch("200", () -> x.edge(200, 0));
        CHECK.yes("199 is the latest", x.edge(199, 0) <= x.about(0) && x.edge(199, 0) >= x.about(0) - 2000);
        EngineControl y = steady(8);
        y.key(true);
        Rig.toFull(y, 1000);
        while (y.about(14) < 170) {
            y.turn(30, 1000);
        }
        for (int what = 0; what < 3; what++) {
            CHECK.same("EDGE 0 is the one that was " + gone, x.edge(0, what), y.edge(gone, what));
            CHECK.same("EDGE 60", x.edge(60, what), y.edge(60 + gone, what));
        }
    }

    // "(none behind ALL OFF ..)": the gap from the PLANNING before it counts neither as S nor as S0
    private static void noSegmentOverAllOff() {
        EngineControl x = steady(7);
        x.key(true);
        Rig.toFull(x, 1000);
        // BEGINS with seven: 857, 1885, 2914 in TURN 0; 342 (TOOTH 5 of TURN 1), 1371, ..
        x.turn(57, 1000);
        CHECK.same("TURN", x.about(4), 1);
        CHECK.same("TOOTH", x.about(3), 12);
        long segments = x.about(17);
        CHECK.same("a wrong cam edge: ALL OFF", x.cam(0), EngineControl.HALF);
        CHECK.same("FULL at once, in TURN 0", x.cam(0), EngineControl.FULL);
        x.turn(2, 1000);
        CHECK.same("PLANNED at 857, nine places behind the one before", x.about(17), segments + 1);
        x.turn(17, 1000);
        CHECK.same("PLANNED at 1885", x.about(17), segments + 2);
        x.turn(17, 1000);
        CHECK.same("PLANNED at 2914", x.about(17), segments + 3);
        for (int c = 0; c < 7; c++) {
            CHECK.same("no MISS of " + c, x.cylinder(c, 2), 0);
        }
    }

    // "(1000 + SHORT + LONG ..)": SHORT with its sign
    private static void fuelOfShort() {
        for (int raw : new int[] {300, 700}) {
            EngineControl x = steady(1);
            x.calibrate(13, 0);
            x.calibrate(12, 7);
            Rig.everyCell(x, 0, 1111);
            x.pin(7, raw);
            x.key(true);
            x.turn(240, 1000);
            plan(x, 1000);
            long trim = x.about(32);
            CHECK.yes("SHORT " + trim, raw == 300 ? trim > 50 : trim < -50);
            CHECK.same("LONG", x.about(34), 0);
            CHECK.same("FUEL", x.cylinder(0, 5), Math.floorDiv(1111 * (1000 + trim), 1000L) + 900);
        }
    }

    // "an EVENT is put behind FUEL ticks (of its plan)", with EVENTS of all kinds between
    private static void fuelOfEachEvent() {
        EngineControl x = steady(8);
        x.calibrate(4, 20000);
        x.calibrate(5, 9000);
        // INJECT is put nearly a tooth before it happens; FUEL ends 75 ticks before another cylinder's INJECT.
        x.calibrate(1, 659);
        Rig.everyCell(x, 0, 3525);
        x.key(true);
        Rig.toFull(x, 150);
        for (int i = 0; i < 4; i++) {
            x.turn(240, 150);
        }
        long[] on = new long[8];
        int pairs = 0;
        for (int i = 0; i < 120; i++) {
            int c = (int) x.edge(80 + i, 2);
            if (x.edge(80 + i, 1) == 0) {
                on[c] = x.edge(80 + i, 0);
            } else if (x.edge(80 + i, 1) == 1 && on[c] > 0) {
                CHECK.same("FUEL", x.edge(80 + i, 0) - on[c], 4425);
                pairs++;
            }
        }
        CHECK.yes("there were some", pairs >= 20);
        CHECK.same("no CUTOFFS", x.about(16), 0);
    }

    // "COIL: a coil that is off goes on": also when EVENTS that were full have lost a SPARK
    private static void coilsInTurnWhenFull() {
        EngineControl x = new EngineControl();
        x.calibrate(0, 8);
        x.calibrate(4, 20000);
        x.key(true);
        for (int i = 0; i < 20; i++) {
            x.turn(240, 20);
        }
        CHECK.yes("OVER", x.about(13) > 10);
        boolean[] on = new boolean[8];
        boolean[] known = new boolean[8];
        for (int i = 0; i < 200; i++) {
            int c = (int) x.edge(i, 2);
            boolean goesOn = x.edge(i, 1) == 2;
            CHECK.yes("on and off in turn", !known[c] || on[c] != goesOn);
            known[c] = true;
            on[c] = goesOn;
        }
    }

    // "INJECT waits for the angle BEGIN + INJECTION ..; SPARK for TOP - ADVANCE; COIL for SPARK's less .. (all modulo 7200)"
    private static void anglesGoRound() {
        int[][] all = {{0, 300, 450}, {100, 0, 450}, {449, 1400, 450}, {450, 300, 450}, {1649, 300, 450}, {1799, 7, 0},
            {1800, 0, 0}, {7199, 300, -100}, {7100, 1400, -100}, {7099, 1, -100}, {400, 1399, -1}};
        for (int[] one : all) {
            EngineControl x = steady(1);
            x.calibrate(1, one[0]);
            x.calibrate(3, one[1]);
            x.calibrate(4, 20000);
            Rig.everyCell(x, 1, one[2]);
            x.line(12, -10000, 12000, 30000, 12000);
            x.key(true);
            // At PITCH 600 a tenth of a degree is 10 ticks, the coil's way 1200 of them.
            Rig.toFull(x, 600);
            plan(x, 600);
            long inject = x.comes(Math.floorMod(one[0] - 1800 + one[1], 7200));
            long spark = x.comes(Math.floorMod(one[0] - one[2], 7200));
            long coil = x.comes(Math.floorMod(one[0] - one[2] - 1200, 7200));
            x.turn(55, 600);
            CHECK.same("EDGES of TOP " + one[0], x.about(14), 4);
            boolean first = inject <= coil;
            int at = 0;
            while (x.edge(at, 1) != 0) {
                at++;
            }
            CHECK.same("INJECT of TOP " + one[0], x.edge(at, 0), inject);
            at = 0;
            while (x.edge(at, 1) != 2) {
                at++;
            }
            CHECK.same("COIL of TOP " + one[0], x.edge(at, 0), coil);
            CHECK.yes("their order", !first || at > 0);
            at = 0;
            while (x.edge(at, 1) != 3) {
                at++;
            }
            CHECK.same("SPARK of TOP " + one[0], x.edge(at, 0), spark);
        }
    }

    // "While the controller is ON, at each such edge in FULL"
    private static void onlyWhileOn() {
        EngineControl x = steady(8);
        x.key(true);
        Rig.toFull(x, 1000);
        x.key(false);
        x.turn(240, 1000);
        CHECK.same("FULL in the AFTER-RUN", x.about(2), EngineControl.FULL);
        CHECK.same("no PLANNING", x.about(17), 0);
        CHECK.same("no NOWLIMIT", x.about(18), 0);
        CHECK.same("no EDGES", x.about(14), 0);
    }

    // ALL OFF: "no EVENTS, nothing waits; injectors that are on (by cylinders), then coils that are on, go off at once"
    private static void eachAllOffEndsPlans() {
        for (int way = 0; way < 5; way++) {
            EngineControl x = steady(8);
            Rig.everyCell(x, 0, 20000);
            constant(x, 12, 12000);
            x.calibrate(2, 100000);
            x.calibrate(4, 20000);
            x.calibrate(20, 1);
            x.key(true);
            x.watch(true);
            Rig.toFull(x, 1000);
            x.turn(50, 1000);
            CHECK.yes("EVENTS", x.about(12) > 0);
            long before = x.about(14);
            long time = x.about(0);
            if (way == 0) {
                x.key(false);
            } else if (way == 1) {
                x.tooth(1);
                time++;
            } else if (way == 2) {
                x.cam(0);
            } else if (way == 3) {
                // 15 LOOPS more: SHUT at 300000, the edges go on.
                x.turn(114, 1000);
                time = 299000;
                CHECK.same("TIME", x.about(0), time);
                CHECK.same("not SHUT", x.about(28), 0);
                before = x.about(14);
                x.pass(1000);
                time += 1000;
                CHECK.same("SHUT", x.about(28), 1);
            } else {
                // All injectors are off again long before the wheel is LOST: coils are, too.
                x.pass(110000);
                CHECK.same("LOST", x.about(2), EngineControl.LOST);
                time = -1;
            }
            CHECK.same("no EVENTS", x.about(12), 0);
            int last = 0;
            for (int i = (int) Math.min(before, 200); time >= 0 && i < Math.min(200, x.about(14)); i++) {
                if (x.edge(i, 0) == time) {
                    int order = (int) (x.edge(i, 1) == 1 ? x.edge(i, 2) : x.edge(i, 1) == 4 ? 10 + x.edge(i, 2) : -1);
                    CHECK.yes("injectors, then coils, by cylinders, way " + way, order >= last);
                    last = order;
                }
            }
            CHECK.yes("coils went off", time < 0 || last >= 10);
            for (int c = 0; c < 8; c++) {
                CHECK.same("nothing is on", x.cylinder(c, 3) + x.cylinder(c, 4), 0);
                CHECK.same("nothing waits", x.cylinder(c, 7), 0);
            }
        }
    }
}
