/** Promise 28 about: what the LOOP does, as it is told. */
public final class AboutTest {
    private static final Check CHECK = new Check();

    public static void main(String[] args) {
        wrongInputs();
        pedals();
        plates();
        richer();
        idling();
        throttle();
        secondLook();
        heat();
        closedLoop();
        longTrim();
        pump();
        cellAtHand();
        CHECK.end();
    }

    private static void wrongInputs() {
        EngineControl x = new EngineControl();
        CHECK.noSuch("about(-1)", () -> x.about(-1));
        CHECK.noSuch("about(80)", () -> x.about(80));
        CHECK.noSuch("about(2147483647)", () -> x.about(Integer.MAX_VALUE));
        CHECK.same("about(79)", x.about(79), 0);
    }

    private static EngineControl on() {
        EngineControl x = new EngineControl();
        x.key(true);
        return x;
    }

    private static void pedals() {
        EngineControl x = on();
        x.pin(0, 600);
        x.pin(1, 500);
        x.pass(10000);
        CHECK.same("the lesser one", x.about(20), 488);
        x.pin(0, 0);
        x.pass(100000);
        CHECK.same("PEDAL1 FAILS: PEDAL2", x.about(20), 488);
        x.pin(0, 600);
        x.pin(1, 0);
        x.pass(50000);
        CHECK.same("PEDAL2 is BAD", x.about(20), 488);
        x.pass(50000);
        CHECK.same("both FAIL", x.about(20), 0);
        x.pin(1, 500);
        x.pass(1000000);
        CHECK.same("both are right again", x.about(20), 488);
    }

    private static void plates() {
        EngineControl x = on();
        x.pin(2, 300);
        x.pin(3, 362);
        x.pass(100000);
        CHECK.same("PLATE1", x.about(21), 293);
        CHECK.same("60 apart is not too much (353 and 293)", x.about(27), 0);
        x.pin(3, 363);
        x.pass(90000);
        CHECK.same("PLATES 9", x.about(27), 0);
        x.pass(10000);
        CHECK.same("LIMP", x.about(27), 1);
        CHECK.same("TARGET", x.about(24), 60);
        x.pin(3, 300);
        x.pass(500000);
        CHECK.same("LIMP stays", x.about(27), 1);
        x.pin(2, 0);
        x.pass(100000);
        CHECK.same("PLATE1 FAILS", x.about(21), 293);
        x.pin(3, 0);
        x.pass(100000);
        CHECK.same("both FAIL", x.about(21), 60);
        x.cut(0);
        CHECK.same("LIMP ends with OFF", x.about(27), 0);
    }

    private static void richer() {
        EngineControl x = on();
        x.pin(2, 100);
        x.pin(3, 100);
        x.pass(10000);
        CHECK.same("not in the first LOOP", x.about(22), 0);
        x.pin(2, 120);
        x.pin(3, 120);
        x.pass(10000);
        CHECK.same("97 to 117: not more than QUICK", x.about(22), 0);
        x.pin(2, 150);
        x.pin(3, 150);
        x.pass(10000);
        CHECK.same("117 to 146", x.about(22), 29 * 8);
        x.pass(10000);
        CHECK.same("232 - 29 - 1", x.about(22), 202);
        x.pin(2, 180);
        x.pin(3, 180);
        x.pass(10000);
        CHECK.same("146 to 175: the greater one", x.about(22), 232);
        x.pin(2, 1000);
        x.pin(3, 1000);
        x.pass(10000);
        CHECK.same("500 at most", x.about(22), 500);
        x.pass(1000000);
        CHECK.same("to 0", x.about(22), 0);
    }

    private static void idling() {
        EngineControl x = new EngineControl();
        x.calibrate(18, 1000);
        x.pin(0, 21);
        x.pin(1, 21);
        x.key(true);
        x.pass(10000);
        CHECK.same("STATE 0", x.about(23), 0);
        x.turn(65, 2000);
        CHECK.same("HALF", x.about(2), EngineControl.HALF);
        long before = x.about(23);
        x.pass(10000);
        CHECK.same("FLOOR(300 / 32)", x.about(23) - before, 9);
        x.pass(200000);
        CHECK.same("FLOOR(300 / 32) in each LOOP", x.about(23), before + 21 * 9);
        x.pin(0, 30);
        x.pin(1, 30);
        x.pass(10000);
        CHECK.same("PEDAL above REST: 1 less", x.about(23), before + 21 * 9 - 1);
        x.key(false);
        x.pass(20000);
        CHECK.same("not ON: 1 less", x.about(23), before + 21 * 9 - 3);
    }

    private static void throttle() {
        EngineControl x = on();
        x.pin(0, 512);
        x.pin(1, 512);
        x.pin(2, 410);
        x.pin(3, 410);
        x.pass(10000);
        CHECK.same("TARGET", x.about(24), 500);
        CHECK.same("SUM: ERROR 100", x.about(26), 100);
        CHECK.same("DUTY", x.about(25), 406);
        x.pass(10000);
        CHECK.same("SUM", x.about(26), 200);
        CHECK.same("DUTY", x.about(25), 412);
        x.pin(2, 615);
        x.pin(3, 615);
        x.pass(40000);
        CHECK.same("PLATE", x.about(21), 601);
        CHECK.same("SUM: four times ERROR -101", x.about(26), 200 - 404);
        CHECK.same("FLOOR(-204 / 16)", x.about(25), -404 - 13);
        x.key(false);
        x.pass(10000);
        CHECK.same("without power", x.about(24) + x.about(25) + x.about(26), 60);
        EngineControl y = new EngineControl();
        y.calibrate(17, 50);
        y.calibrate(18, 1000);
        y.pin(2, 30);
        y.pin(3, 30);
        y.key(true);
        y.pass(10000);
        CHECK.same("SUM 16000 at most", y.about(26), 16000);
        CHECK.same("DUTY 1000 at most", y.about(25), 1000);
        y.pin(0, 20);
        y.pin(1, 20);
        y.pin(2, 1003);
        y.pin(3, 1003);
        y.pass(20000);
        CHECK.same("SUM -16000 at least", y.about(26), -16000);
        CHECK.same("DUTY -1000 at least", y.about(25), -1000);
    }

    private static void secondLook() {
        EngineControl x = on();
        x.pin(2, 358);
        x.pin(3, 358);
        x.pass(500000);
        CHECK.same("ERROR 151 for long", x.about(27), 1);
        EngineControl y = on();
        y.pin(2, 359);
        y.pin(3, 359);
        y.pass(500000);
        CHECK.same("ERROR 150", y.about(27), 0);
        y.pin(2, 358);
        y.pin(3, 358);
        y.pass(240000);
        CHECK.same("FAR 24", y.about(27), 0);
        y.pin(2, 512);
        y.pin(3, 512);
        y.pass(10000);
        y.pin(2, 358);
        y.pin(3, 358);
        y.pass(240000);
        CHECK.same("FAR began anew", y.about(27), 0);
        CHECK.yes("with power yet", y.about(25) != 0);
        y.pass(10000);
        CHECK.same("LIMP", y.about(27), 1);
        CHECK.same("THROTTLE acts from the next LOOP on", y.about(24), 500);
        CHECK.same("trouble 12", y.trouble(12, 0), -128 + 32);
        y.pass(10000);
        CHECK.same("TARGET", y.about(24), 60);
    }

    /** Sets COOLANT by a LINE that gives RAW itself. */
    private static EngineControl withCoolant() {
        EngineControl x = new EngineControl();
        x.line(5, 0, 0, 1023, 1023);
        x.limits(5, 0, 1023, 1023);
        x.pin(5, 50);
        x.key(true);
        return x;
    }

    private static void coolant(EngineControl x, int v, int hot, int fans) {
        x.pin(5, v);
        x.pass(10000);
        CHECK.same("HOT at " + v, x.about(29), hot);
        CHECK.same("FANS at " + v, x.about(30), fans);
    }

    private static void heat() {
        EngineControl x = withCoolant();
        coolant(x, 97, 0, 0);
        coolant(x, 98, 0, 1);
        coolant(x, 103, 0, 1);
        coolant(x, 104, 0, 3);
        coolant(x, 114, 0, 3);
        coolant(x, 115, 1, 3);
        coolant(x, 110, 1, 3);
        coolant(x, 109, 0, 3);
        coolant(x, 99, 0, 3);
        coolant(x, 98, 0, 1);
        coolant(x, 93, 0, 1);
        coolant(x, 92, 0, 0);
        x.pin(5, 200);
        x.pass(10000);
        x.cut(0);
        CHECK.same("as at first", x.about(29) + x.about(30), 0);
    }

    // LAMBDA is 550 at rest of its pin: rich.
    private static void closedLoop() {
        EngineControl x = withCoolant();
        x.pin(5, 59);
        x.turn(240, 1000);
        CHECK.same("COOLANT below WARM", x.about(31), 0);
        x.pin(5, 60);
        x.pass((int) (10000 - x.about(0) % 10000));
        CHECK.same("CLOSED", x.about(31), 1);
        CHECK.same("down by STEP", x.about(32), -2);
        x.pass(10000);
        CHECK.same("down by STEP", x.about(32), -4);
        x.pin(7, 100);
        x.pass(10000);
        CHECK.same("the other side: up by 5 STEP", x.about(32), 6);
        x.pass(10000);
        CHECK.same("up by STEP", x.about(32), 8);
        x.pin(7, 419);
        x.pass(10000);
        CHECK.same("LAMBDA 450 is not rich", x.about(32), 10);
        x.key(false);
        x.pass(10000);
        CHECK.same("not CLOSED", x.about(31), 0);
        CHECK.same("towards 0", x.about(32), 9);
        x.pass(100000);
        CHECK.same("0", x.about(32), 0);
        speeds();
        shortEnds();
    }

    private static void speeds() {
        int[] pitches = {2001, 2000, 222, 223};
        int[] closed = {0, 1, 0, 1};
        for (int i = 0; i < pitches.length; i++) {
            EngineControl x = withCoolant();
            x.pin(5, 80);
            x.turn(240, pitches[i]);
            x.pass(10000);
            CHECK.same("SPEED at pitch " + pitches[i], x.about(31), closed[i]);
        }
    }

    private static void shortEnds() {
        EngineControl x = withCoolant();
        x.pin(5, 80);
        for (int i = 0; i < 8; i++) {
            x.turn(240, 1000);
        }
        CHECK.same("-250 at least", x.about(32), -250);
        CHECK.yes("trouble 18", x.trouble(18, 0) > 0);
        for (int i = 0; i < 46; i++) {
            x.turn(240, 1000);
        }
        CHECK.same("SAME 1000: trouble 17", x.trouble(17, 1), 1);
    }

    private static void longTrim() {
        EngineControl x = withCoolant();
        x.pin(5, 80);
        x.turn(240, 1000);
        CHECK.same("the CELL", x.about(33), 2);
        for (int i = 0; i < 3; i++) {
            x.turn(240, 1000);
        }
        CHECK.same("LONG", x.about(34), 0);
        for (int i = 0; i < 2; i++) {
            x.turn(240, 1000);
        }
        CHECK.same("HELD 100: 1 less", x.about(34), -1);
        x.pin(7, 100);
        for (int i = 0; i < 13; i++) {
            x.turn(240, 1000);
        }
        CHECK.yes("1 more again", x.about(34) > -2);
        x.key(false);
        x.pass(1000000);
        x.key(true);
        CHECK.same("LONG is taken over", x.about(34), x.word(0, 37 + 2));
    }

    private static void pump() {
        EngineControl x = on();
        CHECK.same("before the LOOP", x.about(35), 0);
        x.pass(2000000);
        CHECK.same("200 LOOPS", x.about(35), 1);
        x.pass(10000);
        CHECK.same("201", x.about(35), 0);
        x.turn(75, 1000);
        CHECK.same("STATE 2", x.about(35), 1);
        x.key(false);
        x.pass(10000);
        CHECK.same("not ON", x.about(35), 0);
        x.pass(600000);
        x.key(true);
        x.pass(10000);
        CHECK.same("since the KEY came on", x.about(35), 1);
        x.pass(1990000);
        CHECK.same("200 LOOPS", x.about(35), 1);
        x.pass(10000);
        CHECK.same("201", x.about(35), 0);
    }

    private static void cellAtHand() {
        EngineControl x = new EngineControl();
        x.line(4, 0, -100, 1023, 923);
        x.limits(4, 0, 1023, 1023);
        x.key(true);
        int[] raws = {50, 100, 129, 130, 189, 190, 1000};
        int[] cells = {0, 0, 0, 1, 2, 3, 3};
        for (int i = 0; i < raws.length; i++) {
            x.pin(4, raws[i]);
            x.pass(10000);
            CHECK.same("CELL by RAW " + raws[i], x.about(33), cells[i]);
        }
        int[] pitches = {1000, 667, 666, 334, 333, 222, 100};
        int[] rows = {0, 0, 1, 1, 2, 3, 3};
        for (int i = 0; i < pitches.length; i++) {
            EngineControl y = on();
            y.turn(65, pitches[i]);
            CHECK.same("CELL by pitch " + pitches[i], y.about(33), 4 * rows[i] + 2);
        }
    }
}
