/** Boundary cases of 'PINS', and of PEDAL, PLATE and LIMP, which are made of them. */
public final class PinBoundsTest {
    private static final Check CHECK = new Check();
    private static final int[] SUBSTITUTES = {0, 0, 60, 60, 60, 90, 20, 450, 130, 0};

    public static void main(String[] args) {
        limitsAtFirst();
        limitsTold();
        rateItself();
        rateNotInTheFirstLoop();
        widestJump();
        counterEnds();
        failsFromHundredToZero();
        valueWhileBad();
        substitutes();
        pedalsBySixty();
        pedalsToTen();
        pedalsToTwenty();
        pedalsKeptWhileOneFails();
        pedalOfTheOther();
        platesToTen();
        platesToTwenty();
        plateOfTheOther();
        limpWhenBothFail();
        platesWhileOneFails();
        countsBeginAtZeroBehindOff();
        CHECK.end();
    }

    /** The COUNTER of a channel behind one LOOP with this RAW. */
    private static int counter(int channel, int raw) {
        EngineControl x = new EngineControl();
        x.pin(channel, raw);
        x.key(true);
        Rig.loops(x, 1);
        return x.channel(channel, 2);
    }

    // "LOW, HIGH and RATE (20, 1003, 1023 at first; of 7 and 9 0, 1023, 1023)", "below LOW or above HIGH"
    private static void limitsAtFirst() {
        for (int channel = 0; channel < 10; channel++) {
            boolean wide = channel == 7 || channel == 9;
            CHECK.same("LOW of " + channel, counter(channel, wide ? 0 : 20), 0);
            CHECK.same("HIGH of " + channel, counter(channel, wide ? 1023 : 1003), 0);
            if (!wide) {
                CHECK.same("below LOW of " + channel, counter(channel, 19), 10);
                CHECK.same("above HIGH of " + channel, counter(channel, 1004), 10);
            }
            CHECK.same("RAW at first", new EngineControl().channel(channel, 0), 512);
        }
    }

    private static void limitsTold() {
        int[][] all = {{299, 10}, {300, 0}, {301, 10}};
        for (int[] one : all) {
            EngineControl x = new EngineControl();
            x.limits(7, 300, 300, 1023);
            x.pin(7, one[0]);
            x.key(true);
            Rig.loops(x, 1);
            CHECK.same("RAW " + one[0] + " by 300, 300", x.channel(7, 2), one[1]);
        }
    }

    // "or differs from the RAW of the LOOP before by more than RATE"
    private static void rateItself() {
        for (int step : new int[] {50, 51, -50, -51}) {
            EngineControl x = new EngineControl();
            x.limits(3, 0, 1023, 50);
            x.key(true);
            Rig.loops(x, 1);
            x.pin(3, 512 + step);
            Rig.loops(x, 1);
            CHECK.same("by " + step, x.channel(3, 2), Math.abs(step) > 50 ? 10 : 0);
            Rig.loops(x, 1);
            CHECK.same("it is as it was", x.channel(3, 2), Math.abs(step) > 50 ? 9 : 0);
        }
        EngineControl x = new EngineControl();
        x.limits(3, 0, 1023, 0);
        x.key(true);
        Rig.loops(x, 3);
        CHECK.same("RATE 0, the same RAW", x.channel(3, 2), 0);
        x.pin(3, 513);
        Rig.loops(x, 1);
        CHECK.same("RATE 0, by 1", x.channel(3, 2), 10);
        // What is between two LOOPS does not matter.
        x.pin(3, 0);
        x.pin(3, 513);
        Rig.loops(x, 1);
        CHECK.same("as in the LOOP before", x.channel(3, 2), 9);
    }

    // "(not in the first LOOP since BOOT)"
    private static void rateNotInTheFirstLoop() {
        EngineControl x = new EngineControl();
        x.limits(0, 0, 1023, 0);
        x.pin(0, 800);
        x.key(true);
        Rig.loops(x, 1);
        CHECK.same("the first LOOP", x.channel(0, 2), 0);
        x.cut(0);
        x.pin(0, 100);
        x.key(true);
        Rig.loops(x, 1);
        CHECK.same("the first one of the next BOOT", x.channel(0, 2), 0);
        x.key(false);
        x.pin(0, 101);
        x.key(true);
        Rig.loops(x, 1);
        CHECK.same("no BOOT in the AFTER-RUN", x.channel(0, 2), 10);
    }

    private static void widestJump() {
        for (int channel = 7; channel <= 9; channel += 2) {
            EngineControl x = new EngineControl();
            x.pin(channel, 0);
            x.key(true);
            Rig.loops(x, 1);
            x.pin(channel, 1023);
            Rig.loops(x, 1);
            CHECK.same("RATE 1023", x.channel(channel, 2), 0);
        }
    }

    // "BAD makes its COUNTER 10 more (100 at most), else 1 less (0 at least)."
    private static void counterEnds() {
        EngineControl x = new EngineControl();
        x.pin(6, 0);
        x.key(true);
        Rig.loops(x, 1);
        x.pin(6, 500);
        Rig.loops(x, 5);
        CHECK.same("5", x.channel(6, 2), 5);
        x.pin(6, 0);
        Rig.loops(x, 9);
        CHECK.same("95", x.channel(6, 2), 95);
        CHECK.same("it does not FAIL", x.channel(6, 3), 0);
        Rig.loops(x, 1);
        CHECK.same("100 at most", x.channel(6, 2), 100);
        CHECK.same("it FAILS", x.channel(6, 3), 1);
        Rig.loops(x, 3);
        CHECK.same("100 still", x.channel(6, 2), 100);
        x.pin(6, 500);
        Rig.loops(x, 101);
        CHECK.same("0 at least", x.channel(6, 2), 0);
    }

    // "It FAILS from the time on when the COUNTER is 100 until it is 0."
    private static void failsFromHundredToZero() {
        EngineControl x = new EngineControl();
        x.pin(5, 5);
        x.key(true);
        Rig.loops(x, 9);
        CHECK.same("90", x.channel(5, 2), 90);
        CHECK.same("90 does not FAIL", x.channel(5, 3), 0);
        Rig.loops(x, 1);
        CHECK.same("100 FAILS", x.channel(5, 3), 1);
        CHECK.same("SUBSTITUTE", x.channel(5, 1), 90);
        x.pin(5, 700);
        Rig.loops(x, 99);
        CHECK.same("1", x.channel(5, 2), 1);
        CHECK.same("1 FAILS yet", x.channel(5, 3), 1);
        CHECK.same("SUBSTITUTE", x.channel(5, 1), 90);
        Rig.loops(x, 1);
        CHECK.same("0 does not", x.channel(5, 3), 0);
        CHECK.same("VALUE", x.channel(5, 1), x.lineAt(5, 700));
    }

    // "VALUE is: the SUBSTITUTE if it FAILS; else as before if it is BAD; else the LINE's value at RAW."
    private static void valueWhileBad() {
        EngineControl x = new EngineControl();
        x.pin(4, 300);
        CHECK.same("the SUBSTITUTE at first", x.channel(4, 1), 60);
        x.key(true);
        CHECK.same("before the first LOOP", x.channel(4, 1), 60);
        Rig.loops(x, 1);
        int value = x.lineAt(4, 300);
        CHECK.same("the LINE's value", x.channel(4, 1), value);
        x.pin(4, 5);
        Rig.loops(x, 9);
        CHECK.same("as before while it is BAD", x.channel(4, 1), value);
        Rig.loops(x, 1);
        CHECK.same("SUBSTITUTE", x.channel(4, 1), 60);
        x.cut(0);
        x.key(true);
        Rig.loops(x, 1);
        CHECK.same("BAD from the first LOOP on", x.channel(4, 1), 60);
    }

    private static void substitutes() {
        for (int channel = 0; channel < 10; channel++) {
            EngineControl x = new EngineControl();
            CHECK.same("at first", x.channel(channel, 1), SUBSTITUTES[channel]);
            x.limits(channel, 600, 1023, 1023);
            x.pin(channel, 700);
            x.key(true);
            Rig.loops(x, 1);
            CHECK.same("VALUE", x.channel(channel, 1), x.lineAt(channel, 700));
            x.pin(channel, 599);
            Rig.loops(x, 10);
            CHECK.same("SUBSTITUTE of " + channel, x.channel(channel, 1), SUBSTITUTES[channel]);
            x.cut(0);
            CHECK.same("when OFF", x.channel(channel, 1), SUBSTITUTES[channel]);
        }
    }

    /** PEDAL1 500, PEDAL2 so much more, read as they are. */
    private static EngineControl pedals(int apart) {
        EngineControl x = new EngineControl();
        Rig.plainLine(x, 0);
        Rig.plainLine(x, 1);
        x.pin(0, 500);
        x.pin(1, 500 + apart);
        x.key(true);
        return x;
    }

    // "PEDALS .. grows by 1 (20 at most) if their VALUES differ by more than 60, else it shrinks by 1 (0 at least)"
    private static void pedalsBySixty() {
        for (int apart : new int[] {60, 61, -60, -61}) {
            EngineControl x = pedals(apart);
            Rig.loops(x, 10);
            boolean far = Math.abs(apart) > 60;
            CHECK.same("trouble 10, apart by " + apart, x.trouble(10, 0), far ? 32 : -40);
            CHECK.same("PEDAL is the lesser one", x.about(20), Math.min(500, 500 + apart));
        }
    }

    // "10 fails if PEDALS is 10 or more, passes if it is 0 and neither FAILS"
    private static void pedalsToTen() {
        EngineControl x = pedals(100);
        Rig.loops(x, 9);
        CHECK.same("PEDALS 9: neither", x.trouble(10, 0), 0);
        Rig.loops(x, 1);
        CHECK.same("PEDALS 10 fails", x.trouble(10, 0), 32);
        x.pin(1, 500);
        Rig.loops(x, 1);
        CHECK.same("PEDALS 9: neither", x.trouble(10, 0), 32);
        Rig.loops(x, 8);
        CHECK.same("PEDALS 1: neither", x.trouble(10, 0), 32);
        Rig.loops(x, 1);
        CHECK.same("PEDALS 0 passes", x.trouble(10, 0), 28);
        Rig.loops(x, 1);
        CHECK.same("0 at least", x.trouble(10, 0), 24);
        x.pin(1, 600);
        Rig.loops(x, 1);
        CHECK.same("PEDALS 1", x.trouble(10, 0), 24);
        CHECK.same("no LIMP by PEDALS", x.about(27), 0);
    }

    private static void pedalsToTwenty() {
        EngineControl x = pedals(100);
        Rig.loops(x, 40);
        CHECK.same("FAULTY", x.trouble(10, 0), 127);
        x.pin(1, 500);
        Rig.loops(x, 19);
        CHECK.same("PEDALS was 20 at most: 1 now", x.trouble(10, 0), 127);
        Rig.loops(x, 1);
        CHECK.same("0 now", x.trouble(10, 0), 123);
    }

    // With one FAILING, PEDALS is as it was, and neither test result comes at 0.
    private static void pedalsKeptWhileOneFails() {
        for (int failing = 0; failing <= 1; failing++) {
            EngineControl x = pedals(0);
            Rig.loops(x, 2);
            CHECK.same("passes", x.trouble(10, 0), -8);
            x.pin(failing, 0);
            // BAD for ten LOOPS: the VALUE is as before in nine of them, then it FAILS.
            Rig.loops(x, 9);
            CHECK.same("passes", x.trouble(10, 0), -44);
            Rig.loops(x, 5);
            CHECK.same("it FAILS", x.channel(failing, 3), 1);
            CHECK.same("PEDALS is 0, but one FAILS", x.trouble(10, 0), -44);
        }
        EngineControl y = pedals(100);
        Rig.loops(y, 15);
        int before = y.trouble(10, 0);
        CHECK.same("FAULTY", before, 127);
        y.pin(1, 0);
        Rig.loops(y, 10);
        CHECK.same("PEDAL2 FAILS", y.channel(1, 3), 1);
        y.pin(1, 500);
        Rig.loops(y, 99);
        CHECK.same("it FAILS yet", y.channel(1, 3), 1);
        Rig.loops(y, 19);
        CHECK.same("PEDALS was kept at 20", y.trouble(10, 0), 127);
        Rig.loops(y, 1);
        CHECK.same("then 20 less", y.trouble(10, 0), 123);
    }

    // "with one FAILING the other one's VALUE; with both 0"
    private static void pedalOfTheOther() {
        EngineControl x = pedals(100);
        x.pin(0, 0);
        Rig.loops(x, 9);
        CHECK.same("BAD: the lesser one of what was", x.about(20), 0);
        Rig.loops(x, 1);
        CHECK.same("PEDAL1 FAILS", x.about(20), 600);
        x.pin(1, 1023);
        Rig.loops(x, 9);
        CHECK.same("PEDAL2 is BAD", x.about(20), 600);
        Rig.loops(x, 1);
        CHECK.same("both FAIL", x.about(20), 0);
        EngineControl y = pedals(100);
        y.pin(1, 1023);
        Rig.loops(y, 10);
        CHECK.same("PEDAL2 FAILS", y.about(20), 500);
    }

    /** PLATE1 500, PLATE2 so much more, with no SECOND LOOK in the way. */
    private static EngineControl plates(int apart) {
        EngineControl x = new EngineControl();
        Rig.plainLine(x, 2);
        Rig.plainLine(x, 3);
        x.calibrate(18, 1000);
        x.pin(2, 500);
        x.pin(3, 500 + apart);
        x.key(true);
        return x;
    }

    // "LIMP begins if PLATES is 10 or more"
    private static void platesToTen() {
        for (int apart : new int[] {60, -60}) {
            EngineControl x = plates(apart);
            Rig.loops(x, 60);
            CHECK.same("by 60", x.about(27), 0);
        }
        for (int apart : new int[] {61, -61}) {
            EngineControl x = plates(apart);
            Rig.loops(x, 9);
            CHECK.same("PLATES 9", x.about(27), 0);
            CHECK.same("neither", x.trouble(11, 0), 0);
            Rig.loops(x, 1);
            CHECK.same("PLATES 10", x.about(27), 1);
            CHECK.same("fails", x.trouble(11, 0), 32);
            CHECK.same("PLATE is PLATE1's", x.about(21), 500);
            CHECK.same("THROTTLE is without power", x.about(24), 60);
            x.pin(3, 500);
            Rig.loops(x, 200);
            CHECK.same("LIMP stays", x.about(27), 1);
            x.cut(0);
            CHECK.same("it ends when OFF", x.about(27), 0);
            x.key(true);
            Rig.loops(x, 9);
            CHECK.same("PLATES began at 0", x.about(27), 0);
        }
    }

    private static void platesToTwenty() {
        EngineControl x = plates(100);
        Rig.loops(x, 40);
        CHECK.same("FAULTY", x.trouble(11, 0), 127);
        x.pin(3, 500);
        Rig.loops(x, 19);
        CHECK.same("PLATES was 20 at most: 1 now", x.trouble(11, 0), 127);
        Rig.loops(x, 1);
        CHECK.same("0 now", x.trouble(11, 0), 123);
    }

    // "PLATE is PLATE1's VALUE, if that FAILS PLATE2's, with both FAILING 60"
    private static void plateOfTheOther() {
        EngineControl x = plates(30);
        Rig.loops(x, 1);
        CHECK.same("PLATE1's", x.about(21), 500);
        x.pin(2, 0);
        Rig.loops(x, 9);
        CHECK.same("PLATE1 is BAD", x.about(21), 500);
        Rig.loops(x, 1);
        CHECK.same("PLATE1 FAILS", x.about(21), 530);
        CHECK.same("no LIMP by one", x.about(27), 0);
        EngineControl y = plates(30);
        y.pin(3, 0);
        Rig.loops(y, 12);
        CHECK.same("PLATE2 FAILS", y.about(21), 500);
        // PLATE2 was never read: 60 and 500 differ, but for one LOOP less than would be LIMP.
        CHECK.same("no LIMP by one", y.about(27), 0);
        int before = y.trouble(11, 0);
        Rig.loops(y, 10);
        CHECK.same("neither fails nor passes", y.trouble(11, 0), before);
    }

    // "or both FAIL"
    private static void limpWhenBothFail() {
        EngineControl x = plates(0);
        Rig.loops(x, 1);
        x.pin(2, 0);
        Rig.loops(x, 1);
        x.pin(3, 0);
        Rig.loops(x, 9);
        CHECK.same("PLATE1 FAILS", x.channel(2, 3), 1);
        CHECK.same("no LIMP yet", x.about(27), 0);
        Rig.loops(x, 1);
        CHECK.same("both FAIL", x.about(27), 1);
        CHECK.same("PLATE 60", x.about(21), 60);
        CHECK.same("PLATES did not grow", x.trouble(11, 0) <= 0 ? 1 : 0, 1);
    }

    // "PLATES likewise": with one FAILING it is as it was, and trouble 11 does not pass
    private static void platesWhileOneFails() {
        for (int failing = 2; failing <= 3; failing++) {
            EngineControl x = plates(0);
            Rig.loops(x, 1);
            x.pin(failing, 0);
            Rig.loops(x, 9);
            CHECK.same("BAD: it passes", x.trouble(11, 0), -40);
            Rig.loops(x, 30);
            CHECK.same("it FAILS", x.channel(failing, 3), 1);
            CHECK.same("it does not pass", x.trouble(11, 0), -40);
            CHECK.same("PLATES does not grow", x.about(27), 0);
            x.pin(failing, 500);
            Rig.loops(x, 99);
            CHECK.same("it FAILS yet", x.trouble(11, 0), -40);
            Rig.loops(x, 1);
            CHECK.same("it passes", x.trouble(11, 0), -44);
        }
    }

    private static void countsBeginAtZeroBehindOff() {
        EngineControl x = plates(0);
        x.pin(0, 100);
        x.pin(1, 900);
        x.pin(3, 600);
        Rig.loops(x, 7);
        x.cut(0);
        x.key(true);
        Rig.loops(x, 9);
        CHECK.same("PLATES 9", x.about(27), 0);
        CHECK.same("PEDALS 9", x.trouble(10, 0), 0);
        Rig.loops(x, 1);
        CHECK.same("PLATES 10", x.about(27), 1);
        CHECK.same("PEDALS 10", x.trouble(10, 0), 32);
    }
}
