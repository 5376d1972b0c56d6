/** Boundary cases of THE CAR and its cruise. */
public final class CarBoundsTest {
    private static final Check CHECK = new Check();

    public static void main(String[] args) {
        rollingOut();
        goalOfEachGear();
        byFiftyAtMost();
        fastestGoal();
        metresByParts();
        differToTwenty();
        brakingByEither();
        buttonsWhileOn();
        buttonZero();
        mayHold();
        buttonTwo();
        buttonThree();
        wishEnds();
        becomesReady();
        cruiseSumEnds();
        cruisingEnds();
        cruisingRoundsDown();
        targetOfPedalOrCruise();
        CHECK.end();
    }

    // "with GEAR 0 it is 5 less (0 at least)"
    private static void rollingOut() {
        int[][] all = {{0, 0}, {4, 0}, {5, 0}, {6, 1}, {30000, 29995}};
        for (int[] one : all) {
            EngineControl x = Rig.on();
            x.set(1, true);
            x.car(0, one[0]);
            Rig.loops(x, 1);
            CHECK.same("V from " + one[0], x.about(50), one[1]);
        }
        EngineControl x = Rig.on();
        x.car(0, 77);
        x.car(1, 3);
        Rig.loops(x, 5);
        CHECK.same("without AUTO", x.about(50), 77);
        x.cut(0);
        x.set(1, true);
        x.pass(100000);
        CHECK.same("no LOOP when OFF", x.about(50), 77);
        CHECK.same("GEAR stays", x.about(51), 3);
    }

    /** RPM is 250, and stays so as long as the MODEL is not asked to run. */
    private static EngineControl at250(int gear, int v) {
        EngineControl x = Rig.on();
        x.set(0, true);
        x.run(1);
        x.set(1, true);
        x.car(1, gear);
        x.car(0, v);
        CHECK.same("RPM", x.about(44), 250);
        return x;
    }

    // "the lesser of 30000 and RPM * R / 100 (cut off; R is 75, 140, 210, 290, 370, 450 for GEARS 1 .. 6)"
    private static void goalOfEachGear() {
        int[] goals = {187, 350, 525, 725, 925, 1125};
        for (int gear = 1; gear <= 6; gear++) {
            int goal = goals[gear - 1];
            for (int from : new int[] {goal - 1, goal, goal + 1}) {
                EngineControl x = at250(gear, from);
                Rig.loops(x, 1);
                CHECK.same("GEAR " + gear + " from " + from, x.about(50), goal);
            }
        }
    }

    // "V goes by 50 at most"
    private static void byFiftyAtMost() {
        int[][] all = {{137, 187}, {136, 186}, {0, 50}, {237, 187}, {238, 188}, {1000, 950}};
        for (int[] one : all) {
            EngineControl x = at250(1, one[0]);
            Rig.loops(x, 1);
            CHECK.same("V from " + one[0], x.about(50), one[1]);
        }
    }

    /** RPM above 6667: eight cylinders, FUEL of 12000 ticks. */
    static EngineControl fast() {
        EngineControl x = new EngineControl();
        x.calibrate(0, 8);
        x.calibrate(5, 9000);
        Rig.everyCell(x, 0, 11100);
        x.line(10, -10000, 1000, 30000, 1000);
        x.line(11, -10000, 900, 30000, 900);
        x.line(5, -10000, 20, 30000, 20);
        x.key(true);
        x.set(0, true);
        for (int i = 0; i < 100 && x.about(44) < 7000; i++) {
            x.run(240);
        }
        return x;
    }

    private static void fastestGoal() {
        EngineControl x = fast();
        CHECK.yes("RPM " + x.about(44), x.about(44) >= 6700);
        x.set(1, true);
        x.car(1, 6);
        x.car(0, 29990);
        Rig.toLoop(x);
        CHECK.same("30000", x.about(50), 30000);
        Rig.loops(x, 3);
        CHECK.same("30000 at most", x.about(50), 30000);
    }

    // "PARTS grows by V ..; as long as it is 36000 or more, it is 36000 less, and METRES 1 more"
    private static void metresByParts() {
        EngineControl x = Rig.on();
        x.car(0, 18000);
        Rig.loops(x, 1);
        CHECK.same("18000", x.about(52), 0);
        Rig.loops(x, 1);
        CHECK.same("36000", x.about(52), 1);
        Rig.loops(x, 1);
        CHECK.same("18000", x.about(52), 1);
        x.cut(0);
        x.key(true);
        Rig.loops(x, 1);
        CHECK.same("PARTS and METRES stay when OFF", x.about(52), 2);
        EngineControl y = Rig.on();
        y.car(0, 17999);
        Rig.loops(y, 1);
        y.car(0, 18000);
        Rig.loops(y, 1);
        CHECK.same("35999", y.about(52), 0);
        y.car(0, 1);
        Rig.loops(y, 1);
        CHECK.same("36000", y.about(52), 1);
        y.car(0, 30000);
        Rig.loops(y, 1);
        y.car(0, 5999);
        Rig.loops(y, 1);
        CHECK.same("35999 again", y.about(52), 1);
        y.car(0, 2);
        Rig.loops(y, 1);
        CHECK.same("36001", y.about(52), 2);
        EngineControl z = Rig.on();
        z.car(0, 30000);
        Rig.loops(z, 6);
        CHECK.same("180000", z.about(52), 5);
        z.key(false);
        Rig.loops(z, 6);
        CHECK.same("in the AFTER-RUN, too", z.about(52), 10);
    }

    // "DIFFER grows by 1 (20 at most), else it is 0; at 20 the BRAKE is UNSURE, until the controller is OFF"
    private static void differToTwenty() {
        for (int contact = 0; contact <= 1; contact++) {
            EngineControl x = Rig.on();
            x.brake(contact, true);
            Rig.loops(x, 19);
            CHECK.same("DIFFER 19", x.about(54), 0);
            Rig.loops(x, 1);
            CHECK.same("DIFFER 20", x.about(54), 1);
            x.brake(contact, false);
            CHECK.same("BRAKING by UNSURE", x.about(53), 1);
            Rig.loops(x, 50);
            CHECK.same("UNSURE stays", x.about(54), 1);
            CHECK.same("BRAKING stays", x.about(53), 1);
            x.cut(0);
            CHECK.same("until OFF", x.about(54), 0);
            x.brake(contact, true);
            x.key(true);
            Rig.loops(x, 19);
            CHECK.same("DIFFER 19 behind another BOOT", x.about(54), 0);
            Rig.loops(x, 1);
            CHECK.same("DIFFER 20", x.about(54), 1);
        }
        EngineControl y = Rig.on();
        y.brake(0, true);
        Rig.loops(y, 19);
        y.brake(1, true);
        Rig.loops(y, 1);
        y.brake(1, false);
        Rig.loops(y, 19);
        CHECK.same("it began at 0 again", y.about(54), 0);
        Rig.loops(y, 1);
        CHECK.same("20", y.about(54), 1);
        EngineControl z = Rig.on();
        z.brake(0, true);
        z.brake(1, true);
        Rig.loops(z, 60);
        CHECK.same("both on", z.about(54), 0);
    }

    private static void brakingByEither() {
        for (int contacts = 0; contacts < 4; contacts++) {
            EngineControl x = Rig.on();
            x.brake(0, (contacts & 1) != 0);
            x.brake(1, (contacts & 2) != 0);
            Rig.loops(x, 1);
            CHECK.same("contacts " + contacts, x.about(53), contacts == 0 ? 0 : 1);
        }
    }

    // "Buttons (heard while the controller is ON)"
    private static void buttonsWhileOn() {
        EngineControl x = new EngineControl();
        CHECK.same("OFF", x.press(0), 0);
        x.key(true);
        CHECK.same("it was not heard", x.about(55), 0);
        CHECK.same("ON", x.press(0), 1);
        x.key(false);
        CHECK.same("AFTER-RUN", x.press(0), 1);
        x.key(true);
        CHECK.same("ON again", x.press(0), 0);
    }

    private static EngineControl holding(int v) {
        EngineControl x = Rig.on();
        x.car(0, v);
        x.car(1, 3);
        CHECK.same("READY", x.press(0), 1);
        CHECK.same("HOLDING", x.press(1), 2);
        CHECK.same("WISH", x.about(56), v);
        return x;
    }

    // "0: CRUISE is 1 if it was 0, else 0 and WISH 0"
    private static void buttonZero() {
        EngineControl x = holding(5000);
        CHECK.same("from 2", x.press(0), 0);
        CHECK.same("WISH", x.about(56), 0);
        CHECK.same("from 0", x.press(0), 1);
        CHECK.same("from 1", x.press(0), 0);
        EngineControl y = holding(5000);
        y.press(3);
        CHECK.same("WISH", y.about(56), 5000);
        CHECK.same("from 1", y.press(0), 0);
        CHECK.same("WISH", y.about(56), 0);
    }

    // "It MAY hold if V is 3000 or more, GEAR 3 or more, not BRAKING, no LIMP, not SHUT."
    private static void mayHold() {
        int[][] all = {{3000, 3, 1}, {2999, 3, 0}, {3000, 2, 0}, {30000, 6, 1}, {0, 6, 0}, {30000, 0, 0}};
        for (int[] one : all) {
            EngineControl x = Rig.on();
            x.car(0, one[0]);
            x.car(1, one[1]);
            CHECK.same("CRUISE 0: nothing", x.press(1), 0);
            CHECK.same("WISH", x.about(56), 0);
            x.press(0);
            CHECK.same("V " + one[0] + ", GEAR " + one[1], x.press(1), 1 + one[2]);
            CHECK.same("WISH", x.about(56), one[2] * one[0]);
        }
        for (int way = 0; way < 5; way++) {
            EngineControl x = hindered(way);
            x.press(0);
            CHECK.same("way " + way, x.press(1), way == 4 ? 2 : 1);
        }
        EngineControl again = holding(5000);
        again.car(0, 6000);
        CHECK.same("HOLDING: a new WISH", again.press(1), 2);
        CHECK.same("WISH", again.about(56), 6000);
        again.car(0, 2999);
        CHECK.same("it may not", again.press(1), 2);
        CHECK.same("WISH", again.about(56), 6000);
    }

    /** 0, 1: a contact is on; 2: LIMP; 3: SHUT; 4: nothing. */
    private static EngineControl hindered(int way) {
        EngineControl x = new EngineControl();
        x.car(0, 5000);
        x.car(1, 4);
        x.calibrate(18, 1000);
        x.pin(2, way == 2 ? 900 : 512);
        x.key(true);
        if (way == 3) {
            x.watch(true);
        }
        Rig.loops(x, 30);
        if (way < 2) {
            x.brake(way, true);
        }
        CHECK.same("LIMP", x.about(27), way == 2 ? 1 : 0);
        CHECK.same("SHUT", x.about(28), way == 3 ? 1 : 0);
        return x;
    }

    // "2: if CRUISE is 1, WISH above 0, and it MAY: CRUISE 2, CSUM 0"
    private static void buttonTwo() {
        EngineControl x = Rig.on();
        x.car(0, 5000);
        x.car(1, 4);
        CHECK.same("CRUISE 0", x.press(2), 0);
        x.press(0);
        CHECK.same("WISH 0", x.press(2), 1);
        x.press(1);
        x.car(0, 4000);
        Rig.loops(x, 3);
        long cruising = x.about(57);
        CHECK.same("125 * 3 / 16 and 250", cruising, 250 + 375 / 16);
        CHECK.same("HOLDING: nothing", x.press(2), 2);
        Rig.loops(x, 1);
        CHECK.same("CSUM goes on", x.about(57), 250 + 500 / 16);
        x.press(3);
        x.car(0, 2999);
        CHECK.same("it may not", x.press(2), 1);
        x.car(0, 4000);
        CHECK.same("it may", x.press(2), 2);
        CHECK.same("WISH", x.about(56), 5000);
        Rig.loops(x, 1);
        CHECK.same("CSUM began at 0", x.about(57), 250 + 125 / 16);
        x.press(1);
        x.press(1);
        x.car(0, 3000);
        Rig.loops(x, 1);
        CHECK.same("button 1 makes CSUM 0, too", x.about(57), 250 + 125 / 16);
    }

    private static void buttonThree() {
        EngineControl x = Rig.on();
        CHECK.same("from 0", x.press(3), 0);
        x.press(0);
        CHECK.same("from 1", x.press(3), 1);
        EngineControl y = holding(5000);
        CHECK.same("from 2", y.press(3), 1);
        CHECK.same("WISH stays", y.about(56), 5000);
    }

    // "4: if HOLDING, WISH is 100 more (20000 at most). 5: if HOLDING, 100 less (3000 at least)."
    private static void wishEnds() {
        int[][] up = {{19899, 19999}, {19900, 20000}, {19901, 20000}, {20000, 20000}, {3000, 3100}};
        for (int[] one : up) {
            EngineControl x = holding(one[0]);
            CHECK.same("button 4", x.press(4), 2);
            CHECK.same("WISH from " + one[0], x.about(56), one[1]);
        }
        int[][] down = {{3101, 3001}, {3100, 3000}, {3099, 3000}, {3000, 3000}, {20000, 19900}, {30000, 29900}};
        for (int[] one : down) {
            EngineControl x = holding(one[0]);
            CHECK.same("button 5", x.press(5), 2);
            CHECK.same("WISH from " + one[0], x.about(56), one[1]);
        }
        EngineControl x = holding(5000);
        x.press(3);
        x.press(4);
        CHECK.same("READY: button 4 does nothing", x.about(56), 5000);
        x.press(5);
        CHECK.same("READY: button 5 does nothing", x.about(56), 5000);
        x.press(0);
        x.press(4);
        x.press(5);
        CHECK.same("0: nothing", x.about(56), 0);
    }

    // "HOLDING becomes READY if it is not ON, V is below 2500, GEAR below 3, or it is BRAKING, in LIMP or SHUT"
    private static void becomesReady() {
        int[][] all = {{2500, 3, 2}, {2499, 3, 1}, {2500, 2, 1}, {30000, 6, 2}};
        for (int[] one : all) {
            EngineControl x = holding(5000);
            x.car(0, one[0]);
            x.car(1, one[1]);
            CHECK.same("not before the LOOP", x.about(55), 2);
            Rig.loops(x, 1);
            CHECK.same("V " + one[0] + ", GEAR " + one[1], x.about(55), one[2]);
            CHECK.same("WISH stays", x.about(56), 5000);
        }
        for (int contact = 0; contact <= 1; contact++) {
            EngineControl x = holding(5000);
            x.brake(contact, true);
            Rig.loops(x, 1);
            CHECK.same("BRAKING", x.about(55), 1);
        }
        EngineControl off = holding(5000);
        off.car(0, 4000);
        Rig.loops(off, 1);
        CHECK.yes("CRUISING", off.about(57) > 0);
        off.key(false);
        CHECK.same("not before the LOOP", off.about(55), 2);
        Rig.loops(off, 1);
        CHECK.same("not ON", off.about(55), 1);
        CHECK.same("CRUISING", off.about(57), 0);
        EngineControl shut = holding(5000);
        shut.watch(true);
        Rig.loops(shut, 30);
        CHECK.same("SHUT in this LOOP, behind 5a.", shut.about(55), 2);
        Rig.loops(shut, 1);
        CHECK.same("SHUT", shut.about(55), 1);
        EngineControl limp = new EngineControl();
        limp.calibrate(18, 1000);
        limp.car(0, 5000);
        limp.car(1, 3);
        limp.pin(2, 900);
        limp.key(true);
        limp.press(0);
        limp.press(1);
        Rig.loops(limp, 9);
        CHECK.same("PLATES 9", limp.about(55), 2);
        Rig.loops(limp, 1);
        CHECK.same("LIMP", limp.about(55), 1);
    }

    // "CSUM grows by FLOOR((WISH - V) / 8), cut to 0 .. 16000"
    private static void cruiseSumEnds() {
        EngineControl x = holding(20000);
        x.car(0, 3000);
        // 2125 for each LOOP: the eighth is beyond 16000.
        Rig.loops(x, 9);
        CHECK.same("CRUISING", x.about(57), 800);
        x.car(0, 20896);
        Rig.loops(x, 1);
        CHECK.same("16000 - 112 by 16, less 224", x.about(57), 993 - 224);
        EngineControl w = holding(20000);
        w.car(0, 3000);
        Rig.loops(w, 9);
        w.car(0, 20904);
        Rig.loops(w, 1);
        CHECK.same("16000 - 113 by 16, less 226", w.about(57), 992 - 226);
        EngineControl y = holding(9000);
        y.car(0, 10000);
        Rig.loops(y, 3);
        CHECK.same("0 at least", y.about(57), 0);
        y.car(0, 8880);
        Rig.loops(y, 1);
        CHECK.same("from 0 on: 15 by 16, and 30", y.about(57), 30);
        Rig.loops(y, 1);
        CHECK.same("30 by 16, and 30", y.about(57), 31);
    }

    // "CRUISING is FLOOR((WISH - V) / 4) + FLOOR(CSUM / 16), cut to 0 .. 800"
    private static void cruisingEnds() {
        // 4 d and d / 2 by 16: WISH - V is 3102: 775 and 387 / 16 is 24; 3104: 776 and 388 / 16 is 24.
        int[][] all = {{3102, 799}, {3104, 800}, {3108, 800}, {3200, 800}, {0, 0}, {-4, 0}, {4, 1}, {3, 0}, {127, 31}};
        for (int[] one : all) {
            EngineControl x = holding(10000);
            x.car(0, 10000 - one[0]);
            Rig.loops(x, 1);
            CHECK.same("WISH - V " + one[0], x.about(57), one[1]);
        }
    }

    private static void cruisingRoundsDown() {
        EngineControl x = holding(10000);
        x.car(0, 10000 - 1024);
        Rig.loops(x, 1);
        CHECK.same("CSUM 128", x.about(57), 256 + 8);
        x.car(0, 10001);
        Rig.loops(x, 1);
        CHECK.same("CSUM 127, and FLOOR(-1 / 4)", x.about(57), 7 - 1);
    }

    // "IDLING and the greater of PEDAL and CRUISING together"
    private static void targetOfPedalOrCruise() {
        int[][] all = {{256, 264}, {264, 264}, {265, 265}};
        for (int[] one : all) {
            EngineControl x = new EngineControl();
            x.line(0, -10000, one[0], 30000, one[0]);
            x.line(1, -10000, one[0], 30000, one[0]);
            x.car(0, 10000);
            x.car(1, 3);
            x.key(true);
            x.press(0);
            x.press(1);
            x.car(0, 10000 - 1024);
            Rig.loops(x, 1);
            CHECK.same("CRUISING", x.about(57), 264);
            CHECK.same("TARGET by PEDAL " + one[0], x.about(24), one[1]);
        }
    }
}
