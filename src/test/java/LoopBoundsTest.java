/** Boundary cases of 'THE LOOP': steps 4 to 11, 13 and 14. */
public final class LoopBoundsTest {
    private static final Check CHECK = new Check();

    public static void main(String[] args) {
        richAboveQuick();
        richEnds();
        richDecays();
        richKeepsTheGreater();
        richNotInTheFirstLoop();
        idlingAtRest();
        idlingNeedsStep();
        idlingEnds();
        idlingRoundsDown();
        idlingByRules();
        targetEnds();
        sumEnds();
        dutyEnds();
        dutyRoundsDown();
        withoutPower();
        secondLookApart();
        secondLookLong();
        secondLookBothSides();
        watchWaits();
        wrongEnds();
        shutAtThree();
        allOffOnlyWhenShutBegins();
        questionGoesRound();
        watchAnew();
        lastAnswerCounts();
        heatEnds();
        closedBySpeed();
        closedByWarm();
        closedByTheRest();
        lambdaSides();
        shortEnds();
        shortTowardsZero();
        cellEnds();
        heldToHundred();
        longByTwenty();
        longEnds();
        pumpTwoHundred();
        pumpWhileTurning();
        sessionSilent();
        CHECK.end();
    }

    private static void constant(EngineControl x, int line, int v) {
        x.line(line, -10000, v, 30000, v);
    }

    /** PLATE is what the pins say; no SECOND LOOK in the way. */
    private static EngineControl plate(int at) {
        EngineControl x = new EngineControl();
        Rig.plainLine(x, 2);
        Rig.plainLine(x, 3);
        x.calibrate(18, 1000);
        move(x, at);
        return x;
    }

    private static void move(EngineControl x, int plate) {
        x.pin(2, plate);
        x.pin(3, plate);
    }

    private static long richBehind(int quick, int richer, int from, int to) {
        EngineControl x = plate(from);
        x.calibrate(10, quick);
        x.calibrate(11, richer);
        x.key(true);
        Rig.loops(x, 1);
        move(x, to);
        Rig.loops(x, 1);
        return x.about(22);
    }

    // "if PLATE is above that of the LOOP before by more than QUICK"
    private static void richAboveQuick() {
        CHECK.same("by QUICK", richBehind(20, 8, 300, 320), 0);
        CHECK.same("by QUICK and 1", richBehind(20, 8, 300, 321), 168);
        CHECK.same("down", richBehind(20, 8, 400, 300), 0);
        CHECK.same("QUICK 1, by 1", richBehind(1, 8, 300, 301), 0);
        CHECK.same("QUICK 1, by 2", richBehind(1, 8, 300, 302), 16);
        CHECK.same("RICHER 0", richBehind(1, 0, 300, 400), 0);
    }

    // "the lesser of 500 and the difference * RICHER"
    private static void richEnds() {
        CHECK.same("62 * 8", richBehind(20, 8, 300, 362), 496);
        CHECK.same("63 * 8", richBehind(20, 8, 300, 363), 500);
        CHECK.same("50 * 10", richBehind(20, 10, 300, 350), 500);
        CHECK.same("49 * 10", richBehind(20, 10, 300, 349), 490);
        CHECK.same("499 * 1", richBehind(20, 1, 100, 599), 499);
        CHECK.same("501 * 1", richBehind(20, 1, 100, 601), 500);
    }

    // "else RICH less RICH / 8, less 1 if it was above 0"
    private static void richDecays() {
        EngineControl x = plate(300);
        x.key(true);
        Rig.loops(x, 1);
        CHECK.same("0", x.about(22), 0);
        move(x, 400);
        Rig.loops(x, 1);
        long rich = 500;
        for (int i = 0; i < 60; i++) {
            CHECK.same("RICH", x.about(22), rich);
            Rig.loops(x, 1);
            rich -= rich / 8 + (rich > 0 ? 1 : 0);
        }
        CHECK.same("0 in the end", x.about(22), 0);
    }

    // "the greater of it and .."
    private static void richKeepsTheGreater() {
        EngineControl x = plate(300);
        x.key(true);
        Rig.loops(x, 1);
        move(x, 360);
        Rig.loops(x, 1);
        CHECK.same("480", x.about(22), 480);
        move(x, 385);
        Rig.loops(x, 1);
        CHECK.same("25 * 8 is less: it stays", x.about(22), 480);
        move(x, 446);
        Rig.loops(x, 1);
        CHECK.same("61 * 8 is more", x.about(22), 488);
    }

    // "(not in the first LOOP since BOOT)"
    private static void richNotInTheFirstLoop() {
        EngineControl x = plate(900);
        x.key(true);
        Rig.loops(x, 1);
        CHECK.same("PLATE", x.about(21), 900);
        CHECK.same("RICH", x.about(22), 0);
        x.cut(0);
        x.key(true);
        Rig.loops(x, 1);
        CHECK.same("RICH behind another BOOT", x.about(22), 0);
    }

    /** In HALF at SPEED 1000000 / pitch, with this PEDAL and this IDLE. */
    private static EngineControl idling(int pedal, int idle, String rules) {
        EngineControl x = plate(60);
        x.calibrate(9, idle);
        constant(x, 0, pedal);
        constant(x, 1, pedal);
        if (!rules.isEmpty()) {
            Rig.build(x, rules);
        }
        x.key(true);
        return x;
    }

    private static long idlingBehind(int pedal, int idle, int pitch, String rules) {
        EngineControl x = idling(pedal, idle, rules);
        x.turn(60, pitch);
        CHECK.same("HALF", x.about(2), EngineControl.HALF);
        long before = x.about(23);
        CHECK.same("0 before", before, 0);
        Rig.toLoop(x);
        return x.about(23);
    }

    // "PEDAL is not above REST"
    private static void idlingAtRest() {
        CHECK.same("PEDAL is REST", idlingBehind(20, 800, 2000, ""), 9);
        CHECK.same("above REST", idlingBehind(21, 800, 2000, ""), 0);
        for (int pedal = 99; pedal <= 101; pedal++) {
            EngineControl y = plate(60);
            y.calibrate(23, 100);
            constant(y, 0, pedal);
            constant(y, 1, pedal);
            y.key(true);
            y.turn(60, 2000);
            Rig.toLoop(y);
            CHECK.same("REST 100, PEDAL " + pedal, y.about(23), pedal <= 100 ? 9 : 0);
        }
        EngineControl x = idling(20, 2000, "");
        x.turn(60, 2000);
        Rig.toLoop(x);
        long idle = x.about(23);
        CHECK.same("(2000 - 500) / 32", idle, 46);
        x.pin(0, 0);
        x.pin(1, 0);
        Rig.loops(x, 1);
        CHECK.same("PEDALS are BAD, as before", x.about(23), 92);
    }

    // "STATE 2 or 3"
    private static void idlingNeedsStep() {
        EngineControl x = idling(0, 2000, "");
        x.turn(59, 2000);
        CHECK.same("SEEKING", x.about(2), EngineControl.SEEKING);
        CHECK.same("no IDLING", x.about(23), 0);
        x.turn(1, 2000);
        Rig.toLoop(x);
        CHECK.same("HALF", x.about(23), 46);
        // It is LOST: one less for each LOOP, 0 at least.
        x.pass(550000);
        CHECK.same("LOST", x.about(2), EngineControl.LOST);
        long now = x.about(23);
        CHECK.yes("some", now > 0);
        Rig.loops(x, 1);
        CHECK.same("1 less", x.about(23), now - 1);
        Rig.loops(x, (int) now - 1);
        CHECK.same("0", x.about(23), 0);
        Rig.loops(x, 1);
        CHECK.same("0 at least", x.about(23), 0);
        EngineControl y = idling(0, 2000, "");
        y.turn(60, 2000);
        y.key(false);
        Rig.toLoop(y);
        CHECK.same("not ON", y.about(23), 0);
        EngineControl z = idling(0, 2000, "");
        z.pin(2, 900);
        z.turn(60, 2000);
        CHECK.same("LIMP", z.about(27), 1);
        Rig.toLoop(z);
        CHECK.same("LIMP", z.about(23), 0);
    }

    // "cut to 0 .. 250"
    private static void idlingEnds() {
        EngineControl x = idling(0, 2000, "");
        x.turn(60, 2000);
        Rig.toLoop(x);
        for (int i = 1; i < 12; i++) {
            CHECK.same("46 for each LOOP", x.about(23), Math.min(250, 46 * i));
            Rig.loops(x, 1);
        }
        CHECK.same("250 at most", x.about(23), 250);
        EngineControl y = idling(0, 400, "");
        y.turn(60, 200);
        Rig.toLoop(y);
        CHECK.same("0 at least", y.about(23), 0);
    }

    // "FLOOR((IDLE + a .. - SPEED) / 32)"
    private static void idlingRoundsDown() {
        // SPEED 800 by PITCH 1250.
        CHECK.same("31 / 32", idlingBehind(0, 831, 1250, ""), 0);
        CHECK.same("32 / 32", idlingBehind(0, 832, 1250, ""), 1);
        EngineControl x = idling(0, 1000, "a=n<14?0:0-201");
        // SPEED 800 in HALF from 75000 on: up by 200 / 32 first, then down by FLOOR(-1 / 32).
        x.turn(60, 1250);
        for (int i = 0; i < 7; i++) {
            Rig.toLoop(x);
        }
        CHECK.same("LOOPS", x.about(11), 14);
        long top = x.about(23);
        CHECK.same("7 times 6", top, 42);
        Rig.loops(x, 1);
        CHECK.same("a is -200: by 0", x.about(23), top);
        EngineControl y = idling(0, 999, "a=n<14?0:0-200");
        y.turn(60, 1250);
        for (int i = 0; i < 7; i++) {
            Rig.toLoop(y);
        }
        top = y.about(23);
        Rig.loops(y, 1);
        CHECK.same("-1 / 32 is -1", y.about(23), top - 1);
    }

    // "a of the RULES (-200 .. 200)"
    private static void idlingByRules() {
        // IDLE 1280, SPEED 800: 480 and a, by 32.
        int[][] all = {{192, 672}, {199, 679}, {200, 680}, {201, 680}, {999, 680}};
        for (int[] one : all) {
            CHECK.same("a " + one[0], idlingBehind(0, 1280, 1250, "a=" + one[0]), one[1] / 32);
            CHECK.same("a -" + one[0], idlingBehind(0, 1280, 1250, "a=-" + one[0]), (960 - one[1]) / 32);
        }
        // 1280 + 24 + 200 - 800 is 704, 22 times 32: 199 would be 21.
        CHECK.same("a 200", idlingBehind(0, 1304, 1250, "a=200"), 22);
        CHECK.same("a 201", idlingBehind(0, 1303, 1250, "a=201"), 21);
        CHECK.same("a -200", idlingBehind(0, 1320, 1250, "a=-200"), 10);
        CHECK.same("a -200", idlingBehind(0, 1319, 1250, "a=-200"), 9);
        CHECK.same("a -201", idlingBehind(0, 1320, 1250, "a=-201"), 10);
    }

    /** TARGET with this PEDAL. */
    private static EngineControl pedal(int pedal, int plate) {
        EngineControl x = plate(plate);
        constant(x, 0, pedal);
        constant(x, 1, pedal);
        x.key(true);
        return x;
    }

    // "TARGET is the least of 1000, ALLOWED (the BUS), and IDLING with the greater of PEDAL and CRUISING"
    private static void targetEnds() {
        int[][] all = {{999, 999}, {1000, 1000}, {1001, 1000}, {30000, 1000}, {0, 0}, {-5, 0}};
        for (int[] one : all) {
            EngineControl x = pedal(one[0], 512);
            Rig.loops(x, 1);
            CHECK.same("PEDAL " + one[0], x.about(24), one[1]);
        }
        EngineControl x = pedal(900, 512);
        Rig.allow(x, 90, 0);
        Rig.loops(x, 1);
        CHECK.same("ALLOWED is PEDAL", x.about(24), 900);
        Rig.allow(x, 89, 1);
        Rig.loops(x, 1);
        CHECK.same("ALLOWED is less", x.about(24), 890);
        Rig.allow(x, 91, 2);
        Rig.loops(x, 1);
        CHECK.same("ALLOWED is more", x.about(24), 900);
        Rig.allow(x, 0, 3);
        Rig.loops(x, 1);
        CHECK.same("ALLOWED 0", x.about(24), 0);
    }

    // "SUM grows by ERROR * I (cut to -16000 .. 16000)"
    private static void sumEnds() {
        EngineControl up = plate(60);
        up.calibrate(17, 50);
        constant(up, 0, 1000);
        constant(up, 1, 1000);
        up.key(true);
        Rig.loops(up, 1);
        CHECK.same("940 * 50 is cut", up.about(26), 16000);
        EngineControl down = plate(900);
        down.calibrate(17, 50);
        constant(down, 0, 0);
        constant(down, 1, 0);
        down.key(true);
        Rig.loops(down, 1);
        CHECK.same("-900 * 50 is cut", down.about(26), -16000);
        // 320 * 50 is 16000 itself; 1 less a LOOP later.
        EngineControl x = plate(100);
        x.calibrate(17, 50);
        constant(x, 0, 420);
        constant(x, 1, 420);
        x.key(true);
        Rig.loops(x, 1);
        CHECK.same("16000", x.about(26), 16000);
        move(x, 421);
        Rig.loops(x, 1);
        CHECK.same("-1 * 50", x.about(26), 15950);
        EngineControl slow = plate(100);
        slow.calibrate(17, 0);
        constant(slow, 0, 420);
        constant(slow, 1, 420);
        slow.key(true);
        Rig.loops(slow, 5);
        CHECK.same("I 0", slow.about(26), 0);
    }

    // "DUTY is ERROR * P + FLOOR(SUM / 16), cut to -1000 .. 1000"
    private static void dutyEnds() {
        int[][] all = {{99, 990}, {100, 1000}, {101, 1000}, {-99, -990}, {-100, -1000}, {-101, -1000}, {400, 1000}};
        for (int[] one : all) {
            EngineControl x = plate(500);
            x.calibrate(16, 10);
            x.calibrate(17, 0);
            constant(x, 0, 500 + one[0]);
            constant(x, 1, 500 + one[0]);
            x.key(true);
            Rig.loops(x, 1);
            CHECK.same("ERROR " + one[0], x.about(25), one[1]);
        }
    }

    private static void dutyRoundsDown() {
        int[][] all = {{1, 0}, {15, 0}, {16, 1}, {-1, -1}, {-15, -1}, {-16, -1}, {-17, -2}};
        for (int[] one : all) {
            EngineControl x = plate(500);
            x.calibrate(16, 0);
            x.calibrate(17, 1);
            constant(x, 0, 500 + one[0]);
            constant(x, 1, 500 + one[0]);
            x.key(true);
            Rig.loops(x, 1);
            CHECK.same("SUM", x.about(26), one[0]);
            CHECK.same("FLOOR(" + one[0] + " / 16)", x.about(25), one[1]);
        }
    }

    // "in LIMP, SHUT, or not ON: TARGET 60, DUTY 0, SUM 0"
    private static void withoutPower() {
        EngineControl x = pedal(700, 500);
        Rig.loops(x, 5);
        CHECK.yes("power", x.about(26) > 0 && x.about(25) > 0);
        x.key(false);
        CHECK.yes("till the next LOOP", x.about(26) > 0);
        Rig.loops(x, 1);
        CHECK.same("TARGET", x.about(24), 60);
        CHECK.same("DUTY", x.about(25), 0);
        CHECK.same("SUM", x.about(26), 0);
        x.key(true);
        Rig.loops(x, 1);
        CHECK.same("power again", x.about(26), 200);
        x.watch(true);
        Rig.loops(x, 30);
        CHECK.same("SHUT in this LOOP: it acts from the next one on", x.about(24), 700);
        Rig.loops(x, 1);
        CHECK.same("SHUT", x.about(24), 60);
        CHECK.same("SUM", x.about(26), 0);
    }

    /** TARGET is so far above PLATE for so many LOOPS. */
    private static EngineControl apart(int error, int apart, int most) {
        EngineControl x = plate(500);
        x.calibrate(18, apart);
        x.calibrate(19, most);
        constant(x, 0, 500 + error);
        constant(x, 1, 500 + error);
        x.key(true);
        return x;
    }

    // "FAR (0 at first) grows by 1 if ERROR's size is above APART, else it is 0"
    private static void secondLookApart() {
        int[][] all = {{150, 0}, {151, 1}, {-150, 0}, {-151, 1}};
        for (int[] one : all) {
            EngineControl x = apart(one[0], 150, 1);
            Rig.loops(x, 1);
            CHECK.same("ERROR " + one[0], x.about(27), one[1]);
            CHECK.same("trouble 12", x.trouble(12, 0), one[1] == 1 ? 32 : -4);
        }
    }

    // "when it is LONG or more, LIMP begins (THROTTLE acts so from the next LOOP on)"
    private static void secondLookLong() {
        EngineControl x = apart(200, 150, 25);
        Rig.loops(x, 24);
        CHECK.same("FAR 24", x.about(27), 0);
        CHECK.same("neither fails nor passes", x.trouble(12, 0), 0);
        Rig.loops(x, 1);
        CHECK.same("FAR 25", x.about(27), 1);
        CHECK.same("it fails", x.trouble(12, 0), 32);
        CHECK.same("THROTTLE has power in this LOOP", x.about(24), 700);
        Rig.loops(x, 1);
        CHECK.same("none from the next one on", x.about(24), 60);
        CHECK.same("it fails once", x.trouble(12, 0), 32);
        Rig.loops(x, 5);
        CHECK.same("it looks no more", x.trouble(12, 0), 32);
        EngineControl y = apart(200, 150, 25);
        Rig.loops(y, 24);
        move(y, 600);
        Rig.loops(y, 1);
        CHECK.same("FAR is 0 again", y.trouble(12, 0), -4);
        move(y, 500);
        Rig.loops(y, 24);
        CHECK.same("no LIMP", y.about(27), 0);
        Rig.loops(y, 1);
        CHECK.same("LIMP", y.about(27), 1);
    }

    private static void secondLookBothSides() {
        EngineControl x = apart(200, 150, 10);
        Rig.loops(x, 5);
        // PLATE is above TARGET now: the size counts, not the side.
        move(x, 900);
        Rig.loops(x, 4);
        CHECK.same("FAR 9", x.about(27), 0);
        Rig.loops(x, 1);
        CHECK.same("FAR 10", x.about(27), 1);
        // In the AFTER-RUN it does not look, and FAR stays.
        EngineControl y = apart(200, 150, 10);
        Rig.loops(y, 9);
        y.key(false);
        Rig.loops(y, 20);
        CHECK.same("no LIMP", y.about(27), 0);
        CHECK.same("neither fails nor passes", y.trouble(12, 0), 0);
        y.key(true);
        Rig.loops(y, 1);
        CHECK.same("FAR 10", y.about(27), 1);
        EngineControl off = apart(200, 150, 10);
        Rig.loops(off, 9);
        off.cut(0);
        off.key(true);
        Rig.loops(off, 9);
        CHECK.same("FAR is 0 behind OFF", off.about(27), 0);
        Rig.loops(off, 1);
        CHECK.same("FAR 10", off.about(27), 1);
        looksNot();
    }

    // 12 passes only "if FAR is 0 and it looked": not in the AFTER-RUN, not SHUT, not in LIMP
    private static void looksNot() {
        for (int way = 0; way < 3; way++) {
            EngineControl x = apart(0, 150, 10);
            if (way == 2) {
                x.pin(3, 700);
            }
            x.watch(true);
            Rig.loops(x, 5);
            CHECK.same("it looked", x.trouble(12, 0), -20);
            if (way == 0) {
                x.key(false);
                Rig.loops(x, 10);
                CHECK.same("AFTER-RUN", x.trouble(12, 0), -20);
            } else if (way == 1) {
                Rig.loops(x, 25);
                CHECK.same("SHUT in this LOOP, behind 7.", x.trouble(12, 0), -120);
                Rig.loops(x, 5);
                CHECK.same("SHUT", x.trouble(12, 0), -120);
            } else {
                Rig.loops(x, 4);
                CHECK.same("no LIMP", x.trouble(12, 0), -36);
                Rig.loops(x, 5);
                CHECK.same("LIMP", x.trouble(12, 0), -36);
            }
        }
        // FAR does not grow while SHUT: it goes on where it was.
        EngineControl x = apart(200, 150, 200);
        x.watch(true);
        Rig.loops(x, 60);
        CHECK.same("SHUT", x.about(28), 1);
        x.watch(false);
        Rig.loops(x, 169);
        CHECK.same("30 LOOPS before, 169 now", x.about(27), 0);
        Rig.loops(x, 1);
        CHECK.same("200", x.about(27), 1);
    }

    private static EngineControl watched() {
        EngineControl x = Rig.on();
        x.watch(true);
        return x;
    }

    private static void right(EngineControl x) {
        int question = (int) x.about(36);
        CHECK.yes("right", x.answer((question * question + 7) % 16));
    }

    // "WAIT grows by 1; at 10 it is 0; then WRONG is .."
    private static void watchWaits() {
        EngineControl x = watched();
        Rig.loops(x, 9);
        CHECK.same("WAIT 9", x.about(37), 0);
        CHECK.same("QUESTION", x.about(36), 1);
        Rig.loops(x, 1);
        CHECK.same("WAIT 10", x.about(37), 1);
        CHECK.same("QUESTION", x.about(36), 6);
        Rig.loops(x, 9);
        CHECK.same("WAIT 9", x.about(37), 1);
        Rig.loops(x, 1);
        CHECK.same("WAIT 10", x.about(37), 2);
        EngineControl none = Rig.on();
        Rig.loops(none, 40);
        CHECK.same("not armed", none.about(37) + none.about(36) + none.about(28), 0);
        EngineControl after = watched();
        after.key(false);
        Rig.loops(after, 30);
        CHECK.same("in the AFTER-RUN, too", after.about(28), 1);
    }

    // "1 less (0 at least) if the QUESTION was answered right, else 1 more (5 at most)"
    private static void wrongEnds() {
        EngineControl x = watched();
        right(x);
        Rig.loops(x, 10);
        CHECK.same("0 at least", x.about(37), 0);
        for (int i = 1; i <= 7; i++) {
            Rig.loops(x, 10);
            CHECK.same("WRONG", x.about(37), Math.min(5, i));
        }
        for (int i = 4; i >= 0; i--) {
            right(x);
            CHECK.same("SHUT yet", x.about(28), 1);
            Rig.loops(x, 10);
            CHECK.same("WRONG", x.about(37), i);
            CHECK.same("SHUT", x.about(28), i > 0 ? 1 : 0);
        }
    }

    // "SHUT begins when WRONG is 3 (ALL OFF), and ends when WRONG is 0."
    private static void shutAtThree() {
        EngineControl x = watched();
        Rig.loops(x, 20);
        CHECK.same("WRONG 2", x.about(28), 0);
        CHECK.same("trouble 13: neither", x.trouble(13, 0), -4 * 9);
        Rig.loops(x, 9);
        CHECK.same("WRONG 2", x.about(28), 0);
        Rig.loops(x, 1);
        CHECK.same("WRONG 3", x.about(28), 1);
        CHECK.same("it fails", x.trouble(13, 0), -4 * 9 + 32);
        right(x);
        Rig.loops(x, 10);
        CHECK.same("WRONG 2: SHUT stays", x.about(28), 1);
        right(x);
        Rig.loops(x, 10);
        CHECK.same("WRONG 1: SHUT stays", x.about(28), 1);
        right(x);
        Rig.loops(x, 10);
        CHECK.same("WRONG 0", x.about(28), 0);
        Rig.loops(x, 20);
        CHECK.same("WRONG 2", x.about(28), 0);
    }

    // "SHUT begins when WRONG is 3 (ALL OFF)": it does not begin when it is there and WRONG comes back to 3.
    private static void allOffOnlyWhenShutBegins() {
        EngineControl x = Rig.on();
        Rig.toFull(x, 1000);
        x.watch(true);
        x.turn(240, 1000);
        x.turn(54, 1000);
        x.pass(999);
        CHECK.same("WRONG 2", x.about(37), 2);
        CHECK.yes("something is planned", atHand(x) > 0);
        x.pass(1);
        CHECK.same("WRONG 3", x.about(37), 3);
        CHECK.same("ALL OFF", atHand(x), 0);
        x.turn(1, 20);
        right(x);
        x.turn(199, 1000);
        x.pass(979);
        CHECK.same("WRONG 2, SHUT yet", 10 * x.about(37) + x.about(28), 21);
        int before = atHand(x);
        CHECK.yes("sparks are planned", before > 0);
        x.pass(1);
        CHECK.same("WRONG 3, SHUT yet", 10 * x.about(37) + x.about(28), 31);
        CHECK.same("no ALL OFF", atHand(x), before);
    }

    /** EVENTS, and what waits for an angle. */
    private static int atHand(EngineControl x) {
        int count = (int) x.about(12);
        for (int c = 0; c < 4; c++) {
            count += x.cylinder(c, 7);
        }
        return count;
    }

    // "QUESTION becomes (5 QUESTION + 1) modulo 16 and is not answered", "right by (q * q + 7) modulo 16"
    private static void questionGoesRound() {
        EngineControl x = watched();
        int question = 1;
        for (int i = 0; i < 18; i++) {
            CHECK.same("QUESTION", x.about(36), question);
            CHECK.no("16 too many", x.answer((question * question + 7) % 16 + 16));
            CHECK.no("16 too few", x.answer((question * question + 7) % 16 - 16));
            CHECK.yes("right", x.answer((question * question + 7) % 16));
            Rig.loops(x, 10);
            CHECK.same("WRONG", x.about(37), 0);
            question = (5 * question + 1) % 16;
        }
        CHECK.same("all sixteen came", question, 31 % 16 == 15 ? x.about(36) : -1);
        Rig.loops(x, 10);
        CHECK.same("it was not answered", x.about(37), 1);
    }

    // "armed, anew if it is so already (QUESTION 1, not answered) ..; in any case WAIT and WRONG are 0, and SHUT ends"
    private static void watchAnew() {
        EngineControl x = Rig.on();
        CHECK.yes("armed", x.watch(true));
        Rig.loops(x, 45);
        CHECK.same("SHUT", x.about(28), 1);
        CHECK.no("anew", x.watch(true));
        CHECK.same("SHUT ends at once", x.about(28), 0);
        CHECK.same("WRONG", x.about(37), 0);
        CHECK.same("QUESTION", x.about(36), 1);
        Rig.loops(x, 9);
        CHECK.same("WAIT began at 0", x.about(36), 1);
        CHECK.yes("answered right", x.answer(8));
        CHECK.no("anew", x.watch(true));
        Rig.loops(x, 10);
        CHECK.same("not answered", x.about(37), 1);
        Rig.loops(x, 25);
        CHECK.yes("not any more", x.watch(false));
        CHECK.same("SHUT ends", x.about(28), 0);
        CHECK.same("WRONG", x.about(37), 0);
        CHECK.same("QUESTION", x.about(36), 0);
        CHECK.no("not so already", x.watch(false));
        CHECK.yes("armed again", x.watch(true));
    }

    // "(a wrong one takes a right one back; the latest one counts)"
    private static void lastAnswerCounts() {
        EngineControl x = watched();
        CHECK.yes("right", x.answer(8));
        CHECK.no("wrong", x.answer(9));
        Rig.loops(x, 10);
        CHECK.same("wrong", x.about(37), 1);
        CHECK.no("wrong", x.answer(8));
        CHECK.yes("right", x.answer((36 + 7) % 16));
        Rig.loops(x, 10);
        CHECK.same("right", x.about(37), 0);
    }

    // 9.: "from COOLANT HOT (the NUMBER) on until COOLANT is below that less 5. .. FAN 2 likewise."
    private static void heatEnds() {
        int[][] all = {{8, 29, 1}, {14, 30, 1}, {15, 30, 2}};
        for (int[] one : all) {
            EngineControl x = new EngineControl();
            x.line(5, 0, 0, 1023, 1023);
            x.calibrate(8, 140);
            x.calibrate(14, 140);
            x.calibrate(15, 140);
            x.calibrate(one[0], 100);
            x.key(true);
            int[][] way = {{99, 0}, {100, 1}, {96, 1}, {95, 1}, {94, 0}, {95, 0}, {99, 0}, {101, 1}, {50, 0}};
            for (int[] step : way) {
                x.pin(5, step[0]);
                Rig.loops(x, 1);
                CHECK.same("COOLANT " + step[0] + " by NUMBER " + one[0], x.about(one[1]), step[1] * one[2]);
            }
        }
    }

    /** FULL at this PITCH, with nothing that hinders CLOSED. */
    private static EngineControl warm(int pitch) {
        EngineControl x = plate(60);
        constant(x, 4, 60);
        constant(x, 5, 60);
        x.line(7, 0, 0, 1023, 1023);
        x.pin(7, 400);
        x.calibrate(5, 9000);
        x.calibrate(2, 2000000);
        x.key(true);
        Rig.toFull(x, pitch);
        x.turn(1, pitch);
        return x;
    }

    // "SPEED 500 .. 4500"
    private static void closedBySpeed() {
        int[][] all = {{2004, 499, 0}, {2000, 500, 1}, {222, 4504, 0}, {223, 4484, 1}};
        for (int[] one : all) {
            EngineControl x = warm(one[0]);
            CHECK.same("SPEED", x.about(6), one[1]);
            Rig.toLoop(x);
            CHECK.same("CLOSED at SPEED " + one[1], x.about(31), one[2]);
        }
    }

    // "COOLANT is WARM or more"
    private static void closedByWarm() {
        for (int warm = 59; warm <= 61; warm++) {
            EngineControl x = new EngineControl();
            constant(x, 5, 60);
            x.calibrate(13, warm);
            x.key(true);
            x.turn(240, 1000);
            CHECK.same("WARM " + warm, x.about(31), warm <= 60 ? 1 : 0);
        }
    }

    // "it is ON, STATE 3, .. LAMBDA does not FAIL, not CUTTING, not SHUT, .. RICH 0"
    private static void closedByTheRest() {
        EngineControl on = warm(1000);
        Rig.toLoop(on);
        CHECK.same("CLOSED", on.about(31), 1);
        on.key(false);
        Rig.loops(on, 1);
        CHECK.same("not ON", on.about(31), 0);
        EngineControl half = plate(60);
        constant(half, 5, 60);
        half.key(true);
        half.turn(134, 1000);
        CHECK.same("HALF", half.about(31), 0);
        half.turn(6, 1000);
        CHECK.same("FULL", half.about(31), 1);
        EngineControl cutting = warm(223);
        cutting.turn(1, 223);
        Rig.toLoop(cutting);
        CHECK.same("not CUTTING", cutting.about(31), 1);
        EngineControl limit = plate(60);
        constant(limit, 5, 60);
        limit.calibrate(5, 1000);
        limit.key(true);
        Rig.toFull(limit, 1001);
        limit.turn(1, 1001);
        Rig.toLoop(limit);
        CHECK.same("999: not CUTTING", limit.about(31), 1);
        limit.tooth(1000);
        Rig.toLoop(limit);
        EngineControl shut = warm(1000);
        shut.watch(true);
        Rig.loops(shut, 29);
        CHECK.same("not SHUT", shut.about(31), 1);
        Rig.toLoop(shut);
        CHECK.same("SHUT", shut.about(28), 1);
        CHECK.same("SHUT", shut.about(31), 0);
        cuttingHinders();
        richHinders();
        lambdaHinders();
    }

    private static void cuttingHinders() {
        EngineControl x = plate(60);
        constant(x, 5, 60);
        x.calibrate(5, 1000);
        x.key(true);
        x.turn(134, 1000);
        x.turn(2, 1000);
        CHECK.same("CUTTING", x.about(19), 1);
        Rig.toLoop(x);
        CHECK.same("FULL", x.about(2), EngineControl.FULL);
        CHECK.same("CUTTING", x.about(31), 0);
    }

    private static void richHinders() {
        EngineControl x = warm(1000);
        Rig.toLoop(x);
        move(x, 100);
        Rig.loops(x, 1);
        CHECK.yes("RICH", x.about(22) > 0);
        CHECK.same("RICH", x.about(31), 0);
        for (int i = 0; i < 60; i++) {
            Rig.loops(x, 1);
            CHECK.same("CLOSED when RICH is 0", x.about(31), x.about(22) == 0 ? 1 : 0);
        }
        CHECK.same("CLOSED in the end", x.about(31), 1);
    }

    private static void lambdaHinders() {
        EngineControl x = plate(60);
        constant(x, 5, 60);
        x.calibrate(2, 2000000);
        x.limits(7, 100, 900, 1023);
        x.key(true);
        x.turn(240, 1000);
        x.pin(7, 99);
        Rig.toLoop(x);
        Rig.loops(x, 8);
        CHECK.same("COUNTER", x.channel(7, 2), 90);
        CHECK.same("BAD alone does not hinder", x.about(31), 1);
        Rig.loops(x, 1);
        CHECK.same("it FAILS", x.channel(7, 3), 1);
        CHECK.same("not CLOSED", x.about(31), 0);
    }

    // "the mixture is rich if LAMBDA is above 450", "SHORT goes by 5 STEP, SAME is 0; else SHORT goes by STEP"
    private static void lambdaSides() {
        EngineControl x = warm(1000);
        x.pin(7, 450);
        Rig.toLoop(x);
        CHECK.same("450 is not rich", x.about(32), 2);
        Rig.loops(x, 3);
        CHECK.same("by STEP", x.about(32), 8);
        x.pin(7, 451);
        Rig.loops(x, 1);
        CHECK.same("451 is: by 5 STEP", x.about(32), -2);
        Rig.loops(x, 1);
        CHECK.same("by STEP", x.about(32), -4);
        x.pin(7, 450);
        Rig.loops(x, 1);
        CHECK.same("by 5 STEP", x.about(32), 6);
        // Another side behind a LOOP that was not CLOSED is no other side.
        x.tooth(10);
        Rig.loops(x, 1);
        CHECK.same("not CLOSED: towards 0", x.about(32), 5);
    }

    // "SHORT is cut to -250 .. 250"
    private static void shortEnds() {
        for (int rich = 0; rich <= 1; rich++) {
            EngineControl x = warm(1000);
            int sign = rich == 1 ? -1 : 1;
            x.pin(7, rich == 1 ? 500 : 400);
            Rig.toLoop(x);
            Rig.loops(x, 123);
            CHECK.same("124 LOOPS", x.about(32), sign * 248);
            Rig.loops(x, 1);
            CHECK.same("250", x.about(32), sign * 250);
            Rig.loops(x, 1);
            CHECK.same("250 still", x.about(32), sign * 250);
            x.pin(7, rich == 1 ? 400 : 500);
            Rig.loops(x, 1);
            CHECK.same("5 STEP back", x.about(32), sign * 240);
        }
    }

    // "If not CLOSED: SHORT goes by 1 towards 0"
    private static void shortTowardsZero() {
        for (int rich = 0; rich <= 1; rich++) {
            EngineControl x = warm(1000);
            int sign = rich == 1 ? -1 : 1;
            x.pin(7, rich == 1 ? 500 : 400);
            Rig.toLoop(x);
            Rig.loops(x, 4);
            CHECK.same("SHORT", x.about(32), sign * 10);
            x.key(false);
            for (int i = 9; i >= -2; i--) {
                Rig.loops(x, 1);
                CHECK.same("SHORT", x.about(32), sign * Math.max(0, i));
            }
        }
    }

    // "4 * (the lesser of 3 and SPEED / 1500) + the lesser of 3 and PRESSURE / 30 (PRESSURE below 0: 0)"
    private static void cellEnds() {
        int[][] speeds = {{667, 1499, 0}, {666, 1501, 1}, {334, 2994, 1}, {333, 3003, 2}, {223, 4484, 2}, {222, 4504, 3},
            {20, 50000, 3}};
        for (int[] one : speeds) {
            EngineControl x = plate(60);
            constant(x, 4, 0);
            x.key(true);
            x.turn(61, one[0]);
            CHECK.same("SPEED", x.about(6), one[1]);
            Rig.toLoop(x);
            CHECK.same("CELL at SPEED " + one[1], x.about(33), 4 * one[2]);
        }
        int[][] pressures = {{-10000, 0}, {-30, 0}, {-1, 0}, {0, 0}, {29, 0}, {30, 1}, {59, 1}, {60, 2}, {89, 2}, {90, 3},
            {119, 3}, {120, 3}, {30000, 3}};
        for (int[] one : pressures) {
            EngineControl x = plate(60);
            constant(x, 4, one[0]);
            x.key(true);
            Rig.loops(x, 1);
            CHECK.same("CELL at PRESSURE " + one[0], x.about(33), one[1]);
        }
        // SPEED 1500 by no PITCH; 1000000 / 666 is 1501. It is met by the tooth behind the gap: d / 3.
        EngineControl fresh = new EngineControl();
        CHECK.same("at first by the SUBSTITUTE", fresh.about(33), 2);
    }

    // "If the LOOP before was CLOSED in the same CELL, HELD grows by 1, else it is 0; at 100 it is 0, and LONG .."
    private static void heldToHundred() {
        EngineControl x = warm(1000);
        x.turn(4, 1000);
        CHECK.same("CLOSED", x.about(31), 1);
        roll(x, 99);
        CHECK.same("HELD 99", x.about(34), 0);
        roll(x, 1);
        CHECK.same("HELD 100", x.about(34), 1);
        roll(x, 99);
        CHECK.same("HELD 99 again", x.about(34), 1);
        roll(x, 1);
        CHECK.same("HELD 100 again", x.about(34), 2);
        heldByCell();
    }

    /** So many LOOPS while the wheel turns at SPEED 1000. */
    private static void roll(EngineControl x, int loops) {
        for (int left = loops; left > 0; left -= 24) {
            x.turn(10 * Math.min(24, left), 1000);
        }
    }

    private static void heldByCell() {
        EngineControl y = plate(60);
        y.line(4, 0, 0, 1023, 1023);
        constant(y, 5, 60);
        y.pin(4, 50);
        y.pin(7, 300);
        y.key(true);
        Rig.toFull(y, 1000);
        y.turn(5, 1000);
        CHECK.same("CLOSED", y.about(31), 1);
        roll(y, 99);
        y.pin(4, 61);
        roll(y, 1);
        CHECK.same("another CELL: HELD is 0", y.about(34), 0);
        y.pin(4, 50);
        roll(y, 1);
        CHECK.same("LONG of the first CELL", y.about(34), 0);
        roll(y, 99);
        CHECK.same("HELD 99", y.about(34), 0);
        roll(y, 1);
        CHECK.same("HELD 100", y.about(34), 1);
        // A LOOP that is not CLOSED makes HELD 0, and the first one that is does not count.
        roll(y, 50);
        move(y, 100);
        roll(y, 1);
        CHECK.same("RICH", y.about(31), 0);
        int waited = 0;
        while (waited < 60 && y.about(31) == 0) {
            roll(y, 1);
            waited++;
        }
        roll(y, 99);
        CHECK.same("HELD 99", y.about(34), 1);
        roll(y, 1);
        CHECK.same("HELD 100", y.about(34), 2);
    }

    /** Behind 101 CLOSED LOOPS: one side for so many of them, then to and fro. */
    private static EngineControl held(int steps, boolean rich) {
        EngineControl x = warm(1000);
        x.pin(7, rich ? 500 : 400);
        Rig.toLoop(x);
        Rig.loops(x, steps - 1);
        // Now by 5 STEP to and fro: an even number of times is as before.
        for (int i = steps; i < 101; i++) {
            x.pin(7, ((i - steps) % 2 == 0) != rich ? 500 : 400);
            Rig.loops(x, 1);
        }
        return x;
    }

    // "LONG of the CELL is 1 more if SHORT is above 20, 1 less if it is below -20"
    private static void longByTwenty() {
        int[][] all = {{9, 18, 0}, {11, 22, 1}};
        for (int[] one : all) {
            EngineControl up = held(one[0], false);
            CHECK.same("SHORT", up.about(32), one[1]);
            CHECK.same("LONG by SHORT " + one[1], up.about(34), one[2]);
            EngineControl down = held(one[0], true);
            CHECK.same("SHORT", down.about(32), -one[1]);
            CHECK.same("LONG by SHORT -" + one[1], down.about(34), -one[2]);
        }
        int[][] exact = {{4, 20, 0}, {7, 21, 1}};
        for (int[] one : exact) {
            for (int sign = -1; sign <= 1; sign += 2) {
                // STEP 5: four LOOPS are 20; STEP 7: three are 21.
                EngineControl x = plate(60);
                x.calibrate(12, one[0] == 4 ? 5 : 7);
                constant(x, 4, 60);
                constant(x, 5, 60);
                x.line(7, 0, 0, 1023, 1023);
                x.pin(7, sign > 0 ? 400 : 500);
                x.calibrate(2, 2000000);
                x.key(true);
                Rig.toFull(x, 1000);
                x.turn(1, 1000);
                Rig.toLoop(x);
                int steps = one[0] == 4 ? 3 : 2;
                Rig.loops(x, steps);
                int left = 100 - steps;
                for (int i = 0; i < left; i++) {
                    x.pin(7, (i % 2 == 0) == sign > 0 ? 500 : 400);
                    Rig.loops(x, 1);
                }
                long due = left % 2 == 0 ? sign * one[1] : sign * (one[1] - 5 * (one[0] == 4 ? 5 : 7));
                CHECK.same("SHORT", x.about(32), due);
                CHECK.same("LONG by SHORT " + due, x.about(34), due > 20 ? 1 : due < -20 ? -1 : 0);
            }
        }
    }

    // "cut to -100 .. 100"
    private static void longEnds() {
        for (int sign = -1; sign <= 1; sign += 2) {
            for (int at = 98; at <= 100; at++) {
                EngineControl x = plate(60);
                constant(x, 4, 60);
                constant(x, 5, 60);
                x.pin(7, sign > 0 ? 300 : 700);
                x.calibrate(2, 2000000);
                Rig.store(x, 0, 1, 39, sign * at);
                x.key(true);
                CHECK.same("LONG at BOOT", x.about(34), sign * at);
                Rig.toFull(x, 1000);
                x.turn(1, 1000);
                Rig.toLoop(x);
                Rig.loops(x, 100);
                CHECK.same("LONG from " + sign * at, x.about(34), sign * Math.min(100, at + 1));
            }
        }
    }

    // "The PUMP runs, if ON, in the first 200 LOOPS since the KEY came on"
    private static void pumpTwoHundred() {
        EngineControl x = Rig.on();
        CHECK.same("before the first LOOP", x.about(35), 0);
        Rig.loops(x, 1);
        CHECK.same("LOOP 1", x.about(35), 1);
        Rig.loops(x, 198);
        CHECK.same("LOOP 199", x.about(35), 1);
        Rig.loops(x, 1);
        CHECK.same("LOOP 200", x.about(35), 1);
        Rig.loops(x, 1);
        CHECK.same("LOOP 201", x.about(35), 0);
        x.key(false);
        Rig.loops(x, 1);
        CHECK.same("in the AFTER-RUN", x.about(35), 0);
        x.key(true);
        Rig.loops(x, 200);
        CHECK.same("the KEY came on again", x.about(35), 1);
        Rig.loops(x, 1);
        CHECK.same("LOOP 201 since then", x.about(35), 0);
        x.key(false);
        Rig.loops(x, 100);
        CHECK.same("OFF", x.about(1), EngineControl.OFF);
        x.key(true);
        Rig.loops(x, 200);
        CHECK.same("another BOOT", x.about(35), 1);
        Rig.loops(x, 1);
        CHECK.same("LOOP 201 of it", x.about(35), 0);
    }

    // "and as long as STATE is 2 or 3"
    private static void pumpWhileTurning() {
        EngineControl x = Rig.on();
        Rig.loops(x, 210);
        x.turn(59, 1000);
        Rig.toLoop(x);
        CHECK.same("SEEKING", x.about(2), EngineControl.SEEKING);
        CHECK.same("SEEKING", x.about(35), 0);
        x.tooth(10);
        CHECK.same("HALF", x.about(2), EngineControl.HALF);
        CHECK.same("not before the LOOP", x.about(35), 0);
        Rig.toLoop(x);
        CHECK.same("HALF", x.about(35), 1);
        Rig.loops(x, 48);
        CHECK.same("HALF yet", x.about(35), 1);
        Rig.loops(x, 2);
        CHECK.same("LOST", x.about(2), EngineControl.LOST);
        CHECK.same("LOST", x.about(35), 0);
        EngineControl y = Rig.on();
        y.turn(140, 1000);
        y.key(false);
        Rig.loops(y, 1);
        CHECK.same("FULL in the AFTER-RUN", y.about(2), EngineControl.FULL);
        CHECK.same("not ON", y.about(35), 0);
    }

    // "If there is a SESSION, SILENT grows by 1; at 500 the SESSION ends."
    private static void sessionSilent() {
        EngineControl x = Rig.on();
        Rig.ask(x, 0x81);
        Rig.loops(x, 495);
        // Three LOOPS more while the REQUEST comes.
        CHECK.same("what is handled makes it 0", Rig.ask(x, 0x3E), "7E");
        Rig.loops(x, 499);
        CHECK.same("SILENT 499", x.about(40), 1);
        Rig.loops(x, 1);
        CHECK.same("SILENT 500", x.about(40), 0);
        CHECK.same("not handled any more", Rig.ask(x, 0x3E), "");
        CHECK.same("a new one", Rig.ask(x, 0x81), "C1 EA 8F");
        Rig.loops(x, 498);
        // What is not handled (another TGT) leaves SILENT as it is.
        x.hear(129, 0);
        x.hear(18, 0);
        x.hear(241, 0);
        x.hear(0x3E, 0);
        x.hear(129 + 18 + 241 + 0x3E & 255, 0);
        Rig.loops(x, 1);
        CHECK.same("SILENT 499", x.about(40), 1);
        Rig.loops(x, 1);
        CHECK.same("SILENT 500", x.about(40), 0);
    }
}
