/** Promises 4 tooth, 5 cam, 6 turn, 47 comes. */
public final class WheelTest {
    private static final Check CHECK = new Check();

    public static void main(String[] args) {
        seeking();
        gapsAndSlips();
        theCam();
        missedCam();
        stalling();
        turning();
        coming();
        CHECK.end();
    }

    private static EngineControl on() {
        EngineControl x = new EngineControl();
        x.key(true);
        return x;
    }

    /** HALF, at TOOTH 0, PITCH 1000. */
    private static EngineControl half() {
        EngineControl x = on();
        x.tooth(1000);
        x.tooth(1000);
        x.tooth(3000);
        return x;
    }

    private static void teeth(EngineControl x, int n) {
        for (int i = 0; i < n; i++) {
            x.tooth(1000);
        }
    }

    /** FULL, at TOOTH 15 of TURN 0, PITCH 1000. */
    private static EngineControl full() {
        EngineControl x = half();
        teeth(x, 15);
        x.cam(0);
        return x;
    }

    private static void seeking() {
        EngineControl x = new EngineControl();
        CHECK.badArgument("tooth(0)", () -> x.tooth(0));
        CHECK.badArgument("tooth(1000001)", () -> x.tooth(1000001));
        CHECK.same("an edge is heard by nobody when it is OFF", x.tooth(1000000), EngineControl.LOST);
        CHECK.same("but TIME passes", x.about(0), 1000000);
        x.key(true);
        CHECK.same("LOST to SEEKING", x.tooth(1), EngineControl.SEEKING);
        CHECK.same("no PITCH", x.about(5), 0);
        CHECK.same("SEEKING", x.tooth(700), EngineControl.SEEKING);
        CHECK.same("PITCH", x.about(5), 700);
        CHECK.same("2 PITCH is no gap", x.tooth(1400), EngineControl.SEEKING);
        CHECK.same("PITCH", x.about(5), 1400);
        CHECK.same("above 5 PITCH is no gap", x.tooth(7001), EngineControl.SEEKING);
        CHECK.same("PITCH", x.about(5), 7001);
        CHECK.same("SPEED is not told below HALF", x.about(6), 0);
        x.tooth(1000);
        CHECK.same("5 PITCH is a gap", x.tooth(5000), EngineControl.HALF);
        CHECK.same("PITCH is a third, cut off", x.about(5), 1666);
        CHECK.same("SPEED", x.about(6), 600);
        CHECK.same("TOOTH", x.about(3), 0);
        CHECK.same("TURN", x.about(4), 0);
        EngineControl y = on();
        y.tooth(1);
        y.tooth(1);
        CHECK.same("above 2 PITCH", y.tooth(3), EngineControl.HALF);
        CHECK.same("PITCH 1", y.about(5), 1);
        CHECK.same("SPEED of it", y.about(6), 1000000);
        EngineControl z = new EngineControl();
        z.calibrate(2, 2000000);
        z.key(true);
        z.tooth(1);
        z.pass(900000);
        z.tooth(900000);
        CHECK.same("PITCH 1000000 at most", z.about(5), 1000000);
    }

    private static void gapsAndSlips() {
        EngineControl x = half();
        CHECK.same("HALF", x.about(2), EngineControl.HALF);
        CHECK.same("half a PITCH is none", x.tooth(500), EngineControl.SEEKING);
        CHECK.same("SLIPS", x.about(7), 1);
        CHECK.same("PITCH", x.about(5), 500);
        CHECK.same("TOOTH below HALF", x.about(3), 0);
        x = half();
        CHECK.same("just above half a PITCH", x.tooth(501), EngineControl.HALF);
        CHECK.same("TOOTH", x.about(3), 1);
        CHECK.same("2 PITCH", x.tooth(1002), EngineControl.HALF);
        CHECK.same("above 2 PITCH", x.tooth(2005), EngineControl.SEEKING);
        x = half();
        teeth(x, 57);
        CHECK.same("TOOTH 57", x.about(3), 57);
        CHECK.same("2 PITCH is no gap", x.tooth(2000), EngineControl.SEEKING);
        CHECK.same("TURNS", x.about(10), 0);
        x = half();
        teeth(x, 57);
        CHECK.same("the gap", x.tooth(2001), EngineControl.HALF);
        CHECK.same("TURN is the other one", x.about(4), 1);
        CHECK.same("TURNS", x.about(10), 1);
        CHECK.same("PITCH", x.about(5), 667);
        x = half();
        teeth(x, 57);
        CHECK.same("5 PITCH", x.tooth(5000), EngineControl.HALF);
        x = half();
        teeth(x, 57);
        CHECK.same("above 5 PITCH", x.tooth(5001), EngineControl.SEEKING);
    }

    private static void theCam() {
        EngineControl x = half();
        CHECK.badArgument("cam(-1)", () -> half().cam(-1));
        CHECK.badArgument("cam(1000001)", () -> half().cam(1000001));
        teeth(x, 9);
        CHECK.same("TOOTH 9 in HALF", x.cam(0), EngineControl.HALF);
        x.tooth(1000);
        CHECK.same("TOOTH 10", x.cam(0), EngineControl.FULL);
        CHECK.same("ANGLE", x.comes(600), x.about(0));
        teeth(x, 10);
        CHECK.same("TOOTH 20", x.cam(5), EngineControl.FULL);
        CHECK.same("TIME passes", x.about(0), 25005);
        x.tooth(1000);
        CHECK.same("no MISS behind right ones", x.about(8), 0);
        CHECK.same("TOOTH 21 is wrong", x.cam(0), EngineControl.HALF);
        CHECK.same("WRONGCAM", x.about(9), 1);
        x = half();
        teeth(x, 21);
        CHECK.same("TOOTH 21 in HALF does nothing", x.cam(0), EngineControl.HALF);
        CHECK.same("WRONGCAM", x.about(9), 0);
        x = full();
        teeth(x, 42);
        x.tooth(3000);
        teeth(x, 15);
        CHECK.same("TOOTH 15 of TURN 1 is wrong", x.cam(0), EngineControl.HALF);
        CHECK.same("then the other turn is found", x.cam(0), EngineControl.FULL);
        CHECK.same("TURN", x.about(4), 0);
        x = on();
        CHECK.same("LOST", x.cam(0), EngineControl.LOST);
        x.tooth(1000);
        CHECK.same("SEEKING", x.cam(1000000), EngineControl.LOST);
    }

    private static void missedCam() {
        EngineControl x = full();
        for (int turn = 0; turn < 6; turn++) {
            teeth(x, turn == 0 ? 42 : 57);
            x.tooth(3000);
            CHECK.same("MISSED", x.about(8), turn / 2);
        }
        teeth(x, 20);
        CHECK.same("before TOOTH 21", x.about(8), 2);
        x.tooth(1000);
        CHECK.same("at TOOTH 21 of TURN 0", x.about(8), 3);
        x = full();
        teeth(x, 42);
        x.tooth(3000);
        teeth(x, 57);
        x.tooth(3000);
        teeth(x, 21);
        CHECK.same("MISSED 1", x.about(8), 1);
        teeth(x, 36);
        x.tooth(3000);
        teeth(x, 57);
        x.tooth(3000);
        teeth(x, 12);
        x.cam(0);
        CHECK.same("a right one makes it 0", x.about(8), 0);
    }

    private static void stalling() {
        EngineControl x = full();
        CHECK.same("LAST", x.about(0), 20000);
        x.pass(499999);
        CHECK.same("not yet", x.about(2), EngineControl.FULL);
        x.pass(1);
        CHECK.same("STALL", x.about(2), EngineControl.LOST);
        CHECK.same("no PITCH", x.about(5), 0);
        CHECK.same("no SLIP", x.about(7), 0);
        EngineControl y = on();
        y.tooth(10000);
        y.pass(490000);
        CHECK.same("SEEKING", y.about(2), EngineControl.SEEKING);
        y.pass(10000);
        CHECK.same("at STALL", y.about(2), EngineControl.LOST);
    }

    private static void turning() {
        EngineControl x = on();
        CHECK.badArgument("turn(0, 20)", () -> x.turn(0, 20));
        CHECK.badArgument("turn(241, 20)", () -> x.turn(241, 20));
        CHECK.badArgument("turn(1, 19)", () -> x.turn(1, 19));
        CHECK.badArgument("turn(1, 100001)", () -> x.turn(1, 100001));
        CHECK.same("teeth up to place 57", x.turn(57, 1000), EngineControl.SEEKING);
        CHECK.same("no tooth at 58, 59", x.turn(2, 1000), EngineControl.SEEKING);
        CHECK.same("place 60", x.turn(1, 1000), EngineControl.HALF);
        CHECK.same("WHERE", x.about(45), 60);
        CHECK.same("no cam edge at 75", x.turn(20, 1000), EngineControl.HALF);
        CHECK.same("to place 14", x.turn(54, 1000), EngineControl.HALF);
        CHECK.same("WHERE", x.about(45), 14);
        CHECK.same("a cam edge at 15", x.turn(1, 1000), EngineControl.FULL);
        CHECK.same("ANGLE", x.about(3) + 100 * x.about(4), 15);
        CHECK.same("TIME", x.about(0), 135000);
        CHECK.same("RPM stays", x.about(44), 0);
        CHECK.same("240 places", x.turn(240, 1000), EngineControl.FULL);
        CHECK.same("WHERE", x.about(45), 15);
        CHECK.same("no MISSED, no SLIPS", x.about(7) + x.about(8), 0);
        CHECK.same("TURNS", x.about(10), 5);
    }

    private static void coming() {
        EngineControl x = on();
        CHECK.badArgument("comes(-1)", () -> x.comes(-1));
        CHECK.badArgument("comes(7200)", () -> x.comes(7200));
        CHECK.badState("comes in LOST", () -> x.comes(0));
        EngineControl h = half();
        CHECK.badState("comes in HALF", () -> h.comes(0));
        CHECK.badArgument("the angle is looked at first", () -> h.comes(7200));
        EngineControl y = full();
        long now = y.about(0);
        CHECK.same("ANGLE", y.comes(900), now);
        CHECK.same("a place ahead", y.comes(960), now + 1000);
        CHECK.same("cut off", y.comes(901), now + 16);
        CHECK.same("just behind", y.comes(899), now + 7199L * 1000 / 60);
        CHECK.same("0", y.comes(0), now + 6300L * 1000 / 60);
        y.pass(500);
        CHECK.same("from LAST on", y.comes(960), now + 1000);
    }
}
