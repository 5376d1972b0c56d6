/** Promises 34 car, 35 brake, 36 press: the road, the brake, the cruise. */
public final class CarTest {
    private static final Check CHECK = new Check();

    public static void main(String[] args) {
        wrongInputs();
        rolling();
        contacts();
        buttons();
        holding();
        lettingGo();
        CHECK.end();
    }

    private static void wrongInputs() {
        EngineControl x = new EngineControl();
        CHECK.noSuch("car(2, 0)", () -> x.car(2, 0));
        CHECK.noSuch("car(-1, -1)", () -> x.car(-1, -1));
        CHECK.badArgument("car(0, -1)", () -> x.car(0, -1));
        CHECK.badArgument("car(0, 30001)", () -> x.car(0, 30001));
        CHECK.badArgument("car(1, 7)", () -> x.car(1, 7));
        CHECK.badArgument("car(1, -1)", () -> x.car(1, -1));
        CHECK.same("V", x.car(0, 30000), 0);
        CHECK.same("V", x.car(0, 5), 30000);
        CHECK.same("GEAR", x.car(1, 6), 0);
        CHECK.same("GEAR", x.car(1, 0), 6);
        CHECK.noSuch("brake(2, true)", () -> x.brake(2, true));
        CHECK.noSuch("brake(-1, true)", () -> x.brake(-1, true));
        CHECK.no("brake(0, false)", x.brake(0, false));
        CHECK.yes("brake(1, true)", x.brake(1, true));
        CHECK.no("brake(1, true) again", x.brake(1, true));
        CHECK.noSuch("press(6)", () -> x.press(6));
        CHECK.noSuch("press(-1)", () -> x.press(-1));
        CHECK.same("press while OFF", x.press(0), 0);
        x.key(true);
        x.cut(0);
        CHECK.no("the brake is the car's", x.brake(1, true));
        CHECK.same("V is the car's", x.about(50), 5);
    }

    private static void rolling() {
        EngineControl x = new EngineControl();
        x.car(0, 30000);
        x.pass(100000);
        CHECK.same("no METRES while OFF", x.about(52), 0);
        x.key(true);
        x.pass(10000);
        CHECK.same("PARTS 30000", x.about(52), 0);
        x.pass(10000);
        CHECK.same("PARTS 60000", x.about(52), 1);
        x.pass(40000);
        CHECK.same("PARTS 180000", x.about(52), 5);
        CHECK.same("V stays without AUTO", x.about(50), 30000);
        x.set(1, true);
        x.pass(10000);
        CHECK.same("5 less in GEAR 0", x.about(50), 29995);
        x.car(0, 3);
        x.pass(10000);
        CHECK.same("0 at least", x.about(50), 0);
        x.car(0, 120);
        x.car(1, 1);
        x.pass(10000);
        CHECK.same("50 at most down to RPM 0", x.about(50), 70);
        x.pass(20000);
        CHECK.same("to 0", x.about(50), 0);
        EngineControl y = new EngineControl();
        y.set(0, true);
        y.run(1);
        y.set(1, true);
        y.car(1, 1);
        y.key(true);
        y.pass(100000);
        CHECK.same("250 * 75 / 100", y.about(50), 187);
        y.car(1, 6);
        y.pass(10000);
        CHECK.same("50 at most upwards", y.about(50), 237);
        int[] ratios = {75, 140, 210, 290, 370, 450};
        for (int gear = 1; gear <= 6; gear++) {
            y.car(1, gear);
            y.pass(500000);
            CHECK.same("250 * R / 100 in GEAR " + gear, y.about(50), 250 * ratios[gear - 1] / 100);
        }
    }

    private static void contacts() {
        EngineControl x = new EngineControl();
        x.key(true);
        CHECK.same("not BRAKING", x.about(53), 0);
        x.brake(0, true);
        CHECK.same("BRAKING", x.about(53), 1);
        x.pass(190000);
        CHECK.same("DIFFER 19", x.about(54), 0);
        x.brake(1, true);
        x.pass(10000);
        x.brake(1, false);
        x.pass(190000);
        CHECK.same("DIFFER began anew", x.about(54), 0);
        x.pass(10000);
        CHECK.same("UNSURE", x.about(54), 1);
        x.brake(0, false);
        x.pass(10000);
        CHECK.same("BRAKING by UNSURE", x.about(53), 1);
        x.cut(0);
        CHECK.same("until OFF", x.about(53) + x.about(54), 0);
    }

    /** ON, V 8000 in GEAR 4, and the second look far from LIMP. */
    private static EngineControl onTheRoad() {
        EngineControl x = new EngineControl();
        x.calibrate(18, 1000);
        x.car(0, 8000);
        x.car(1, 4);
        x.key(true);
        return x;
    }

    private static void buttons() {
        EngineControl x = onTheRoad();
        CHECK.same("1 in CRUISE 0", x.press(1), 0);
        CHECK.same("0", x.press(0), 1);
        CHECK.same("2 without a WISH", x.press(2), 1);
        CHECK.same("3 in READY", x.press(3), 1);
        CHECK.same("4 in READY", x.press(4), 1);
        CHECK.same("WISH", x.about(56), 0);
        CHECK.same("1", x.press(1), 2);
        CHECK.same("WISH", x.about(56), 8000);
        x.press(4);
        CHECK.same("100 more", x.about(56), 8100);
        x.press(5);
        x.press(5);
        CHECK.same("100 less", x.about(56), 7900);
        CHECK.same("3", x.press(3), 1);
        CHECK.same("the WISH stays", x.about(56), 7900);
        CHECK.same("2", x.press(2), 2);
        CHECK.same("its WISH", x.about(56), 7900);
        x.car(0, 19950);
        x.press(1);
        x.press(4);
        CHECK.same("20000 at most", x.about(56), 20000);
        x.car(0, 3050);
        x.press(1);
        x.press(5);
        CHECK.same("3000 at least", x.about(56), 3000);
        CHECK.same("0 in HOLDING", x.press(0), 0);
        CHECK.same("WISH 0", x.about(56), 0);
        x.press(0);
        x.press(1);
        x.press(3);
        CHECK.same("0 in READY", x.press(0), 0);
        CHECK.same("WISH 0", x.about(56), 0);
        x.press(0);
        x.car(0, 2999);
        CHECK.same("too slow", x.press(1), 1);
        x.car(0, 3000);
        x.car(1, 2);
        CHECK.same("GEAR 2", x.press(1), 1);
        x.car(1, 3);
        x.brake(0, true);
        CHECK.same("BRAKING", x.press(1), 1);
        x.brake(0, false);
        CHECK.same("V 3000, GEAR 3", x.press(1), 2);
        x.key(false);
        CHECK.same("not heard in the AFTER-RUN", x.press(0), 2);
    }

    private static void holding() {
        EngineControl x = onTheRoad();
        x.pin(0, 20);
        x.pin(1, 20);
        x.press(0);
        x.press(1);
        x.car(0, 7000);
        x.pass(10000);
        // CSUM 125, CRUISING 250 + 7
        CHECK.same("CRUISING", x.about(57), 257);
        CHECK.same("TARGET", x.about(24), 257);
        x.pass(10000);
        CHECK.same("CSUM 250", x.about(57), 250 + 15);
        x.car(0, 8001);
        x.pass(10000);
        // FLOOR(-1 / 8) = -1: CSUM 249; FLOOR(-1 / 4) + 15
        CHECK.same("FLOOR below 0", x.about(57), 14);
        x.car(0, 4000);
        x.pass(10000);
        CHECK.same("800 at most", x.about(57), 800);
        x.press(1);
        x.pass(10000);
        CHECK.same("CSUM began anew", x.about(57), 0);
        x.car(0, 3000);
        x.pass(100000);
        x.press(3);
        x.press(2);
        x.car(0, 4000);
        x.pass(10000);
        CHECK.same("CSUM began anew by 2, too", x.about(57), 0);
        x.car(0, 20000);
        x.pass(10000);
        CHECK.same("0 at least", x.about(57), 0);
        x.car(0, 8000);
        x.press(1);
        x.pin(0, 900);
        x.pin(1, 900);
        x.car(0, 7000);
        x.pass(10000);
        CHECK.same("the greater of PEDAL and CRUISING", x.about(24), x.about(20));
    }

    private static void lettingGo() {
        EngineControl x = onTheRoad();
        x.press(0);
        x.press(1);
        x.car(0, 2500);
        x.pass(10000);
        CHECK.same("V 2500 holds", x.about(55), 2);
        x.car(0, 2499);
        x.pass(10000);
        CHECK.same("V 2499", x.about(55), 1);
        CHECK.same("CRUISING", x.about(57), 0);
        x.car(0, 8000);
        x.press(2);
        x.car(1, 2);
        CHECK.same("until the LOOP", x.about(55), 2);
        x.pass(10000);
        CHECK.same("GEAR 2", x.about(55), 1);
        x.car(1, 3);
        x.press(2);
        x.brake(1, true);
        x.pass(10000);
        CHECK.same("BRAKING", x.about(55), 1);
        x.brake(1, false);
        x.press(2);
        x.watch(true);
        x.pass(300000);
        CHECK.same("SHUT, but behind 5a.", x.about(28) + 10 * x.about(55), 21);
        x.pass(10000);
        CHECK.same("SHUT", x.about(55), 1);
        CHECK.same("may not", x.press(2), 1);
        x.watch(false);
        CHECK.same("may", x.press(2), 2);
        x.key(false);
        x.pass(10000);
        CHECK.same("not ON", x.about(55), 1);
        x.key(true);
        x.press(2);
        x.pin(2, 900);
        x.pass(150000);
        CHECK.same("LIMP", x.about(27), 1);
        CHECK.same("in LIMP", x.about(55), 1);
        x.cut(0);
        CHECK.same("CRUISE is the controller's", x.about(55) + x.about(56), 0);
    }
}
