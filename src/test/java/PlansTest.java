/** Promises 30 cylinder, 31 edge: limits, plans, EVENTS, the LOG. */
public final class PlansTest {
    private static final Check CHECK = new Check();

    public static void main(String[] args) {
        wrongInputs();
        tops();
        onePlan();
        edgesOfOneStroke();
        cutoff();
        knocking();
        limits();
        softLimit();
        misses();
        over();
        theLog();
        CHECK.end();
    }

    /** FULL since place 15, the wheel at place 60. */
    private static EngineControl turned(EngineControl x, int pitch) {
        x.key(true);
        x.turn(180, pitch);
        return x;
    }

    private static void wrongInputs() {
        EngineControl x = new EngineControl();
        CHECK.noSuch("cylinder(4, 0)", () -> x.cylinder(4, 0));
        CHECK.noSuch("cylinder(-1, 0)", () -> x.cylinder(-1, 0));
        CHECK.noSuch("cylinder(0, 8)", () -> x.cylinder(0, 8));
        CHECK.noSuch("cylinder(0, -1)", () -> x.cylinder(0, -1));
        x.calibrate(0, 8);
        CHECK.same("cylinder 7 of 8", x.cylinder(7, 7), 0);
        CHECK.noSuch("cylinder(8, 0)", () -> x.cylinder(8, 0));
        turned(x, 1000);
        CHECK.noSuch("edge(-1, 0)", () -> x.edge(-1, 0));
        CHECK.noSuch("edge(0, 3)", () -> x.edge(0, 3));
        CHECK.noSuch("edge(0, -1)", () -> x.edge(0, -1));
        CHECK.noSuch("edge(200, 0)", () -> x.edge(200, 0));
        CHECK.noSuch("behind the last edge", () -> x.edge((int) x.about(14), 0));
    }

    private static void tops() {
        EngineControl x = new EngineControl();
        CHECK.same("TOP 0", x.cylinder(0, 0), 600);
        CHECK.same("TOP 3", x.cylinder(3, 0), 6000);
        x.calibrate(0, 7);
        CHECK.same("cut off", x.cylinder(1, 0), 600 + 1028);
        x.calibrate(1, 7199);
        CHECK.same("modulo 7200", x.cylinder(1, 0), 1027);
    }

    /**
     * One cylinder, TOP 600, BEGIN 6000: place 100. At rest of the pins (RAW 512) PRESSURE is 60,
     * COOLANT 49, BATTERY 100; SPEED is 1000 at pitch 1000.
     */
    private static EngineControl planned(int first) {
        EngineControl x = new EngineControl();
        x.calibrate(0, 1);
        x.calibrate(1, first);
        return turned(x, 1000);
    }

    private static void onePlan() {
        EngineControl x = planned(600);
        CHECK.same("nothing was PLANNED by now", x.cylinder(0, 5), 0);
        x.turn(39, 1000);
        CHECK.same("before BEGIN", x.cylinder(0, 7), 0);
        x.turn(1, 1000);
        // VALUE at 1000, 60: 2700 - 50 + 0; WARMING at 49: 1155; DEAD at 100: 1560.
        int fuel = x.value(0, 1000, 60) * x.lineAt(10, 49) / 1000 + x.lineAt(11, 100);
        CHECK.same("VALUE", x.value(0, 1000, 60), 2750);
        CHECK.same("FUEL", x.cylinder(0, 5), fuel);
        CHECK.same("FUEL reckoned by hand", fuel, 2750 * 1155 / 1000 + 1560);
        CHECK.same("ADVANCE", x.cylinder(0, 6), x.value(1, 1000, 60));
        CHECK.same("all three wait", x.cylinder(0, 7), 7);
        CHECK.same("SEGMENTS", x.about(17), 1);
        CHECK.same("NOWLIMIT", x.about(18), 6500);
        x.turn(4, 1000);
        CHECK.same("INJECT waits for 6300, place 105", x.cylinder(0, 7), 7);
        x.turn(1, 1000);
        CHECK.same("it is an EVENT", x.cylinder(0, 7), 6);
        CHECK.same("EVENTS", x.about(12), 1);
        CHECK.same("it happens in the next call that passes time", x.cylinder(0, 3), 0);
        CHECK.same("an EDGE", x.pass(0), 1);
        CHECK.same("the injector is on", x.cylinder(0, 3), 1);
        CHECK.same("the EVENT that ends it", x.about(12), 1);
        CHECK.same("USED", x.about(64), fuel);
        CHECK.same("off behind FUEL ticks", x.pass(fuel), 1);
        CHECK.same("the injector is off", x.cylinder(0, 3), 0);
    }

    private static void edgesOfOneStroke() {
        EngineControl x = planned(600);
        x.turn(80, 1000);
        int fuel = x.cylinder(0, 5);
        int advance = x.cylinder(0, 6);
        // Place 0 was reached at 240000; 6300 is 15 places before, SPARK at 600 - ADVANCE.
        long inject = 225000;
        long spark = 240000 + (600 - advance) * 1000 / 60;
        int dwell = x.lineAt(12, 100) * 60 / 1000;
        long coil = 240000 + Math.floorDiv((600 - advance - dwell) * 1000, 60);
        long[] times = {inject, inject + fuel, coil, spark};
        for (int i = 0; i < 4; i++) {
            CHECK.same("time " + i, x.edge(i, 0), times[i]);
            CHECK.same("kind " + i, x.edge(i, 1), i);
            CHECK.same("cylinder " + i, x.edge(i, 2), 0);
        }
        CHECK.same("EDGES", x.about(14), 4);
        CHECK.same("SPARKS", x.about(15), 1);
        CHECK.same("CUTOFFS", x.about(16), 0);
    }

    private static void cutoff() {
        EngineControl x = new EngineControl();
        x.calibrate(0, 1);
        x.calibrate(4, 1000);
        turned(x, 1000);
        x.turn(80, 1000);
        CHECK.same("CUTOFFS", x.about(16), 1);
        CHECK.same("no SPARKS", x.about(15), 0);
        CHECK.same("kind", x.edge(3, 1), 4);
        CHECK.same("behind DWELLMOST", x.edge(3, 0) - x.edge(2, 0), 1000);
        EngineControl y = planned(600);
        y.turn(66, 1000);
        CHECK.same("the coil is on", y.cylinder(0, 4), 1);
        y.key(false);
        CHECK.same("ALL OFF", y.cylinder(0, 4), 0);
        CHECK.same("kind otherwise", y.edge((int) y.about(14) - 1, 1), 4);
        CHECK.same("is no CUTOFF", y.about(16), 0);
        EngineControl z = planned(600);
        z.turn(66, 1000);
        long edges = z.about(14);
        z.cut(0);
        CHECK.same("OFF has no EDGE", z.about(14), edges);
        CHECK.same("the coil is off", z.cylinder(0, 4), 0);
    }

    private static void knocking() {
        EngineControl x = new EngineControl();
        x.calibrate(0, 1);
        x.pin(9, 600);
        turned(x, 1000);
        x.turn(120, 1000);
        CHECK.same("RETARD is BACK more", x.cylinder(0, 1), 20);
        CHECK.same("it is taken off ADVANCE", x.cylinder(0, 6), x.value(1, 1000, 60) - 20);
        for (int i = 0; i < 4; i++) {
            x.turn(240, 1000);
        }
        CHECK.same("150 at most", x.cylinder(0, 1), 150);
        x.pin(9, 599);
        x.turn(120, 1000);
        CHECK.same("1 less", x.cylinder(0, 1), 149);
        for (int i = 0; i < 80; i++) {
            x.turn(240, 1000);
        }
        CHECK.same("0 at least", x.cylinder(0, 1), 0);
    }

    private static void limits() {
        EngineControl x = new EngineControl();
        x.calibrate(5, 1250);
        turned(x, 1000);
        x.turn(120, 1000);
        CHECK.same("not CUTTING", x.about(19), 0);
        x.turn(120, 800);
        CHECK.same("CUTTING at NOWLIMIT", x.about(19), 1);
        CHECK.same("FUEL 0", x.cylinder(0, 5), 0);
        x.turn(120, 950);
        CHECK.same("CUTTING from 1052 on yet", x.about(19), 1);
        x.turn(120, 953);
        CHECK.same("below NOWLIMIT - 200", x.about(19), 0);
        CHECK.yes("FUEL again", x.cylinder(0, 5) > 0);
        // COOLANT 130: HOT
        x.pin(5, 57);
        x.turn(120, 953);
        CHECK.same("HOT", x.about(29), 1);
        CHECK.same("HOTLIMIT", x.about(18), 3500);
        // PLATE1 and PLATE2 apart: LIMP
        x.pin(2, 800);
        x.turn(240, 953);
        CHECK.same("LIMP", x.about(27), 1);
        CHECK.same("LIMPLIMIT", x.about(18), 2500);
    }

    private static void softLimit() {
        EngineControl x = new EngineControl();
        x.calibrate(5, 1290);
        turned(x, 1000);
        x.turn(120, 1000);
        CHECK.same("SOFT: FLOOR(10 / 4)", x.cylinder(0, 6), x.value(1, 1000, 60) - 2);
        EngineControl y = new EngineControl();
        y.calibrate(5, 1000);
        y.cell(1, 0, 1, -100);
        y.cell(1, 1, 1, -100);
        turned(y, 1000);
        y.turn(120, 1000);
        CHECK.same("-100 at least", y.cylinder(0, 6), -100);
    }

    // Eight cylinders are PLANNED each 15 places; a slower quarter of two turns gives MISSES.
    private static void misses() {
        EngineControl x = new EngineControl();
        x.calibrate(0, 8);
        x.calibrate(20, 1);
        turned(x, 1000);
        x.turn(120, 1000);
        x.turn(120, 1000);
        CHECK.same("no MISSES at one speed", x.cylinder(0, 2) + x.cylinder(7, 2), 0);
        long segments = x.about(17);
        x.turn(120, 1200);
        int sum = 0;
        for (int c = 0; c < 8; c++) {
            sum += x.cylinder(c, 2);
        }
        CHECK.same("one segment was longer by more than an eighth", sum, 1);
        CHECK.same("SEGMENTS", x.about(17), segments + 8);
        for (int i = 0; i < 400 && x.about(17) != 199; i++) {
            x.turn(15, i % 8 == 7 ? 1500 : 1000);
        }
        sum = 0;
        for (int c = 0; c < 8; c++) {
            sum += x.cylinder(c, 2);
        }
        CHECK.yes("MISSES are collected", sum > 5);
        CHECK.same("no test yet", x.trouble(27, 0) + x.trouble(26, 0), 0);
        x.turn(15, 1000);
        CHECK.same("SEGMENTS begin anew", x.about(17), 0);
        int failed = 0;
        for (int c = 0; c < 8; c++) {
            CHECK.same("MISSES are 0", x.cylinder(c, 2), 0);
            failed += x.trouble(20 + c, 0) == 32 ? 1 : 0;
            CHECK.yes("each was tested", x.trouble(20 + c, 0) == 32 || x.trouble(20 + c, 0) == -4);
        }
        CHECK.yes("the rough one failed", failed >= 1 && failed <= 3);
    }

    // At pitch 20 coils go on and off each 2400 ticks, and what would cut them off comes behind 20000.
    private static void over() {
        EngineControl x = new EngineControl();
        x.calibrate(0, 8);
        x.calibrate(4, 20000);
        x.key(true);
        for (int i = 0; i < 10; i++) {
            x.turn(240, 20);
        }
        CHECK.yes("64 EVENTS at most", x.about(12) <= 64);
        CHECK.yes("OVER", x.about(13) > 0);
    }

    private static void theLog() {
        EngineControl x = turned(new EngineControl(), 1000);
        for (int i = 0; i < 30; i++) {
            x.turn(240, 1000);
        }
        CHECK.yes("more than 200 ever", x.about(14) > 200);
        CHECK.noSuch("200 are kept", () -> x.edge(200, 0));
        long before = 0;
        for (int i = 0; i < 200; i++) {
            CHECK.yes("in order of time", x.edge(i, 0) >= before);
            before = x.edge(i, 0);
        }
        CHECK.yes("the latest is the last", x.about(0) - before < 60000);
    }
}
