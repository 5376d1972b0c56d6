/** Boundary cases of 'THE WHEEL, THE CAM, ANGLES': gaps, slips, PITCH's ends, MISSED, cam edges, STALL, comes(). */
public final class WheelBoundsTest {
    private static final int LOST = EngineControl.LOST, SEEKING = EngineControl.SEEKING;
    private static final int HALF = EngineControl.HALF, FULL = EngineControl.FULL;
    private static final Check CHECK = new Check();

    public static void main(String[] args) {
        firstEdges();
        gapWhenSeeking();
        longestPitch();
        longestPitchBySlip();
        toothInStep();
        gapInStep();
        pitchOfTheGap();
        turnsAndTheOtherTurn();
        camInHalf();
        camInFull();
        camMakesTurnZero();
        camWithoutStep();
        missedAtToothTwentyOne();
        noMissedInTurnOneOrHalf();
        firstCamCounts();
        speedByPitch();
        comesAtItsEnds();
        comesRoundsDown();
        stallEnds();
        stallWhenSeeking();
        toldBelowHalf();
        CHECK.end();
    }

    /** SEEKING with this PITCH. */
    private static EngineControl seeking(int pitch) {
        EngineControl x = new EngineControl();
        x.calibrate(2, 2000000);
        x.key(true);
        x.tooth(1);
        x.tooth(pitch);
        return x;
    }

    /** HALF, at this TOOTH, with this PITCH. */
    private static EngineControl half(int tooth, int pitch) {
        EngineControl x = seeking(pitch);
        x.tooth(3 * pitch);
        teeth(x, tooth, pitch);
        return x;
    }

    /** FULL, at TOOTH 15 of TURN 0. */
    private static EngineControl full(int pitch) {
        EngineControl x = half(15, pitch);
        x.cam(0);
        return x;
    }

    private static void teeth(EngineControl x, int n, int pitch) {
        for (int i = 0; i < n; i++) {
            x.tooth(pitch);
        }
    }

    // "LOST: STATE is 1, PITCH 0 (not known).", "with no PITCH: PITCH is d"
    private static void firstEdges() {
        EngineControl x = Rig.on();
        x.pass(300);
        CHECK.same("the first", x.tooth(100), SEEKING);
        CHECK.same("no PITCH", x.about(5), 0);
        CHECK.same("the second", x.tooth(1), SEEKING);
        CHECK.same("PITCH", x.about(5), 1);
        CHECK.same("the third", x.tooth(2), SEEKING);
        CHECK.same("2 is not above 2 PITCH", x.about(5), 2);
    }

    // "if d is above 2 PITCH and not above 5 PITCH: TOOTH is 0, TURN 0, STATE 2, PITCH d / 3 (cut off, 1 at least)"
    private static void gapWhenSeeking() {
        int[][] all = {{200, SEEKING, 200}, {201, HALF, 67}, {500, HALF, 166}, {501, SEEKING, 501}, {99, SEEKING, 99}};
        for (int[] one : all) {
            EngineControl x = seeking(100);
            CHECK.same("d " + one[0], x.tooth(one[0]), one[1]);
            CHECK.same("PITCH behind " + one[0], x.about(5), one[2]);
            CHECK.same("TOOTH", x.about(3), 0);
            CHECK.same("TURN", x.about(4), 0);
            CHECK.same("SLIPS", x.about(7), 0);
            CHECK.same("TURNS", x.about(10), 0);
        }
        for (int d = 3; d <= 5; d++) {
            EngineControl x = seeking(1);
            CHECK.same("PITCH 1, d " + d, x.tooth(d), HALF);
            CHECK.same("PITCH", x.about(5), 1);
            CHECK.same("SPEED", x.about(6), 1000000);
        }
        EngineControl x = seeking(1);
        CHECK.same("PITCH 1, d 6", x.tooth(6), SEEKING);
    }

    // "(1000000 at most)"
    private static void longestPitch() {
        for (int more = -1; more <= 1; more++) {
            EngineControl first = seeking(1);
            first.cut(0);
            first.key(true);
            first.tooth(1);
            first.pass(500000);
            first.tooth(500000 + more);
            CHECK.same("the first PITCH", first.about(5), Math.min(1000000, 1000000 + more));
            EngineControl later = seeking(10);
            later.pass(500000);
            later.tooth(500000 + more);
            CHECK.same("another PITCH", later.about(5), Math.min(1000000, 1000000 + more));
        }
        EngineControl x = seeking(1000000);
        x.pass(990000);
        CHECK.same("d far above it", x.tooth(1000000), SEEKING);
        CHECK.same("PITCH", x.about(5), 1000000);
    }

    private static void longestPitchBySlip() {
        for (int more = -1; more <= 1; more++) {
            EngineControl x = half(3, 100);
            x.pass(500000);
            CHECK.same("it SLIPS", x.tooth(500000 + more), SEEKING);
            CHECK.same("SLIPS", x.about(7), 1);
            CHECK.same("PITCH", x.about(5), Math.min(1000000, 1000000 + more));
        }
    }

    // "At another TOOTH: right if 2 d is above PITCH and d not above 2 PITCH: TOOTH grows by 1, PITCH is d."
    private static void toothInStep() {
        int[][] even = {{50, 0}, {51, 1}, {200, 1}, {201, 0}};
        for (int[] one : even) {
            EngineControl x = half(5, 100);
            CHECK.same("PITCH 100, d " + one[0], x.tooth(one[0]), one[1] == 1 ? HALF : SEEKING);
            CHECK.same("TOOTH", x.about(3), one[1] == 1 ? 6 : 0);
            CHECK.same("PITCH", x.about(5), one[0]);
            CHECK.same("SLIPS", x.about(7), 1 - one[1]);
        }
        int[][] odd = {{50, 0}, {51, 1}, {202, 1}, {203, 0}};
        for (int[] one : odd) {
            EngineControl x = half(0, 101);
            CHECK.same("PITCH 101, d " + one[0], x.tooth(one[0]), one[1] == 1 ? HALF : SEEKING);
        }
        EngineControl x = half(56, 100);
        CHECK.same("TOOTH 56 is not before the gap", x.tooth(201), SEEKING);
        EngineControl y = full(100);
        y.tooth(201);
        CHECK.same("a slip in FULL", y.about(7), 1);
        CHECK.same("STATE", y.about(2), SEEKING);
        CHECK.same("SPEED", y.about(6), 0);
    }

    // "at TOOTH 57: right if d is above 2 PITCH and not above 5 PITCH"
    private static void gapInStep() {
        int[][] all = {{200, 0}, {201, 1}, {500, 1}, {501, 0}};
        for (int[] one : all) {
            EngineControl x = half(57, 100);
            CHECK.same("TOOTH", x.about(3), 57);
            CHECK.same("d " + one[0], x.tooth(one[0]), one[1] == 1 ? HALF : SEEKING);
            CHECK.same("SLIPS", x.about(7), 1 - one[1]);
            CHECK.same("TURNS", x.about(10), one[1]);
            CHECK.same("TURN", x.about(4), one[1]);
            CHECK.same("PITCH", x.about(5), one[1] == 1 ? one[0] / 3 : one[0]);
        }
    }

    private static void pitchOfTheGap() {
        for (int d = 298; d <= 302; d++) {
            EngineControl x = half(57, 100);
            x.tooth(d);
            CHECK.same("PITCH", x.about(5), d / 3);
        }
        EngineControl x = half(57, 1);
        x.tooth(3);
        CHECK.same("PITCH", x.about(5), 1);
    }

    // "TOOTH is 0, TURN the other one (0, 1) .. TURNS grows by 1"
    private static void turnsAndTheOtherTurn() {
        EngineControl x = half(0, 100);
        for (int turns = 0; turns < 4; turns++) {
            CHECK.same("TURN", x.about(4), turns % 2);
            CHECK.same("TURNS", x.about(10), turns);
            teeth(x, 57, 100);
            CHECK.same("TOOTH", x.about(3), 57);
            x.tooth(300);
            CHECK.same("TOOTH", x.about(3), 0);
        }
    }

    // "in HALF, at TOOTH 10 .. 20: TURN is 0, STATE 3, MISSED 0"
    private static void camInHalf() {
        int[][] all = {{0, HALF}, {9, HALF}, {10, FULL}, {15, FULL}, {20, FULL}, {21, HALF}, {57, HALF}};
        for (int[] one : all) {
            EngineControl x = half(one[0], 100);
            CHECK.same("a cam edge in HALF at " + one[0], x.cam(0), one[1]);
            CHECK.same("WRONGCAM", x.about(9), 0);
            CHECK.same("TOOTH", x.about(3), one[0]);
        }
    }

    // "In FULL: right at TOOTH 10 .. 20 of TURN 0: MISSED is 0; else WRONGCAM grows by 1, ALL OFF, STATE 2."
    private static void camInFull() {
        int[][] all = {{9, 0}, {10, 1}, {20, 1}, {21, 0}, {57, 0}, {0, 0}};
        for (int[] one : all) {
            EngineControl x = full(100);
            teeth(x, 42, 100);
            x.tooth(300);
            teeth(x, 57, 100);
            x.tooth(300);
            teeth(x, one[0], 100);
            CHECK.same("TURN", x.about(4), 0);
            CHECK.same("TOOTH " + one[0] + " of TURN 0", x.cam(0), one[1] == 1 ? FULL : HALF);
            CHECK.same("WRONGCAM", x.about(9), 1 - one[1]);
        }
        EngineControl y = full(100);
        teeth(y, 42, 100);
        y.tooth(300);
        teeth(y, 15, 100);
        CHECK.same("TURN", y.about(4), 1);
        CHECK.same("TOOTH 15 of TURN 1", y.cam(0), HALF);
        CHECK.same("WRONGCAM", y.about(9), 1);
        CHECK.same("TURN stays", y.about(4), 1);
        CHECK.same("SPEED stays", y.about(6), 10000);
        CHECK.same("SLIPS", y.about(7), 0);
    }

    private static void camMakesTurnZero() {
        EngineControl x = half(57, 100);
        x.tooth(300);
        teeth(x, 12, 100);
        CHECK.same("TURN", x.about(4), 1);
        CHECK.same("FULL", x.cam(0), FULL);
        CHECK.same("TURN", x.about(4), 0);
        CHECK.same("TURNS", x.about(10), 1);
    }

    // "Otherwise nothing."
    private static void camWithoutStep() {
        EngineControl x = Rig.on();
        CHECK.same("LOST", x.cam(5), LOST);
        x.tooth(5);
        CHECK.same("SEEKING", x.cam(5), SEEKING);
        CHECK.same("WRONGCAM", x.about(9), 0);
        // It SLIPS at TOOTH 15: the TOOTH of before counts no more.
        EngineControl y = full(100);
        y.tooth(1000);
        CHECK.same("SEEKING", y.cam(0), SEEKING);
        CHECK.same("WRONGCAM", y.about(9), 0);
    }

    // "In FULL, when TOOTH becomes 21 in TURN 0 and no right cam edge .. came since TOOTH became 0"
    private static void missedAtToothTwentyOne() {
        EngineControl x = full(100);
        teeth(x, 42, 100);
        x.tooth(300);
        teeth(x, 57, 100);
        x.tooth(300);
        CHECK.same("TURN", x.about(4), 0);
        teeth(x, 20, 100);
        CHECK.same("at TOOTH 20", x.about(8), 0);
        x.tooth(100);
        CHECK.same("at TOOTH 21", x.about(8), 1);
        x.tooth(100);
        CHECK.same("at TOOTH 22", x.about(8), 1);
        teeth(x, 35, 100);
        x.tooth(300);
        teeth(x, 57, 100);
        x.tooth(300);
        teeth(x, 20, 100);
        CHECK.same("a right cam edge at TOOTH 20", x.cam(0), FULL);
        CHECK.same("MISSED is 0", x.about(8), 0);
        x.tooth(100);
        CHECK.same("none MISSED", x.about(8), 0);
    }

    private static void noMissedInTurnOneOrHalf() {
        EngineControl x = full(100);
        teeth(x, 42, 100);
        x.tooth(300);
        teeth(x, 30, 100);
        CHECK.same("TURN 1", x.about(8), 0);
        EngineControl y = half(57, 100);
        y.tooth(300);
        teeth(y, 57, 100);
        y.tooth(300);
        teeth(y, 30, 100);
        CHECK.same("TURN 0 in HALF", y.about(8), 0);
        CHECK.same("TURN", y.about(4), 0);
    }

    // "(nor that by which STATE became 3)"
    private static void firstCamCounts() {
        EngineControl x = half(10, 100);
        x.cam(0);
        teeth(x, 11, 100);
        CHECK.same("TOOTH", x.about(3), 21);
        CHECK.same("MISSED", x.about(8), 0);
        // Behind a wrong one at TOOTH 5 the next one makes it FULL again, and counts, too.
        EngineControl y = full(100);
        teeth(y, 42, 100);
        y.tooth(300);
        teeth(y, 57, 100);
        y.tooth(300);
        teeth(y, 5, 100);
        y.cam(0);
        teeth(y, 5, 100);
        CHECK.same("FULL again", y.cam(0), FULL);
        teeth(y, 11, 100);
        CHECK.same("MISSED", y.about(8), 0);
    }

    // "SPEED (turns a minute) is 1000000 / PITCH in HALF and FULL, else 0."
    private static void speedByPitch() {
        EngineControl x = seeking(300);
        CHECK.same("SEEKING", x.about(6), 0);
        x.tooth(899);
        CHECK.same("PITCH", x.about(5), 299);
        CHECK.same("SPEED", x.about(6), 3344);
        x.tooth(301);
        CHECK.same("SPEED", x.about(6), 3322);
        x.tooth(601);
        x.tooth(1000000);
        CHECK.same("behind a slip", x.about(6), 0);
        EngineControl y = seeking(400000);
        y.pass(200000);
        CHECK.same("HALF", y.tooth(1000000), HALF);
        CHECK.same("PITCH", y.about(5), 400000);
        CHECK.same("SPEED 2", y.about(6), 2);
    }

    // "An angle u COMES at LAST + FLOOR(((u - ANGLE) modulo 7200) * PITCH / 60)."
    private static void comesAtItsEnds() {
        EngineControl x = full(1000);
        long last = x.about(0);
        CHECK.same("ANGLE itself", x.comes(900), last);
        CHECK.same("one before it", x.comes(899), last + 7199 * 1000 / 60);
        CHECK.same("one behind it", x.comes(901), last + 16);
        CHECK.same("angle 0", x.comes(0), last + 6300 * 1000 / 60);
        CHECK.same("angle 7199", x.comes(7199), last + 6299 * 1000 / 60);
        x.pass(700);
        CHECK.same("LAST counts, not TIME", x.comes(900), last);
        teeth(x, 42, 1000);
        x.tooth(3000);
        CHECK.same("TURN 1", x.comes(3600), x.about(0));
        CHECK.same("TURN 1", x.comes(3599), x.about(0) + 7199 * 1000 / 60);
    }

    private static void comesRoundsDown() {
        EngineControl x = full(59);
        long last = x.about(0);
        CHECK.same("59 / 60", x.comes(901), last);
        CHECK.same("118 / 60", x.comes(902), last + 1);
        CHECK.same("60 * 59 / 60", x.comes(960), last + 59);
        CHECK.same("59 * 59 / 60", x.comes(959), last + 58);
    }

    // 2. of the LOOP: "TIME - LAST is STALL or more"
    private static void stallEnds() {
        for (int late = 0; late <= 1; late++) {
            EngineControl x = new EngineControl();
            x.calibrate(2, 100000);
            x.key(true);
            x.pass(4900 + late);
            x.tooth(5000);
            x.tooth(10);
            x.tooth(30);
            x.tooth(10);
            x.tooth(10);
            x.tooth(10);
            x.tooth(10);
            x.tooth(20);
            CHECK.same("LAST", x.about(0), 10000 + late);
            CHECK.same("HALF", x.about(2), HALF);
            x.pass(99999 - late);
            CHECK.same("before the LOOP", x.about(2), HALF);
            x.pass(1);
            CHECK.same("TIME", x.about(0), 110000);
            CHECK.same("TIME - LAST is STALL - " + late, x.about(2), late == 0 ? LOST : HALF);
            CHECK.same("PITCH", x.about(5), late == 0 ? 0 : 20);
            CHECK.same("SPEED", x.about(6), late == 0 ? 0 : 50000);
            x.pass(10000);
            CHECK.same("LOST", x.about(2), LOST);
        }
    }

    // "if STATE is not 0 (also 1)"
    private static void stallWhenSeeking() {
        EngineControl x = new EngineControl();
        x.calibrate(2, 100000);
        x.key(true);
        x.pass(9990);
        x.tooth(10);
        CHECK.same("SEEKING", x.about(2), SEEKING);
        x.pass(99999);
        CHECK.same("SEEKING", x.about(2), SEEKING);
        x.pass(1);
        CHECK.same("LOST", x.about(2), LOST);
        x.tooth(10);
        CHECK.same("no PITCH is known", x.about(5), 0);
    }

    // "TOOTH (3; 0 below STATE 2, TURN likewise)"
    private static void toldBelowHalf() {
        EngineControl x = half(57, 100);
        x.tooth(300);
        teeth(x, 7, 100);
        CHECK.same("TOOTH", x.about(3), 7);
        CHECK.same("TURN", x.about(4), 1);
        x.tooth(1000);
        CHECK.same("TOOTH when SEEKING", x.about(3), 0);
        CHECK.same("TURN when SEEKING", x.about(4), 0);
        x.tooth(100);
        x.tooth(300);
        CHECK.same("HALF again", x.about(2), HALF);
        CHECK.same("TURN is 0 then", x.about(4), 0);
    }
}
