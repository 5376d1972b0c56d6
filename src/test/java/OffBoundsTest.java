/**
 * "When it goes OFF all that it has but STORE, the BOOK, NUMBERS, LINES and MAPS is as at first (so it is
 * told, too: 0, where nothing else is said ..)": each number that can be told is made another one, and
 * is looked at when a CUT has come.
 */
public final class OffBoundsTest {
    private static final Check CHECK = new Check();

    public static void main(String[] args) {
        wheel();
        missed();
        plans();
        retardAndMisses();
        outputs();
        throttle();
        limpAndShut();
        heatAndMixture();
        trouble();
        tester();
        carAndCruise();
        bus();
        lock();
        rules();
        whatStays();
        CHECK.end();
    }

    private static void constant(EngineControl x, int line, int v) {
        x.line(line, -10000, v, 30000, v);
    }

    /** These numbers of about() are not 0, and are so when it is OFF. */
    private static void zeroThen(EngineControl x, int... whats) {
        for (int what : whats) {
            CHECK.yes("about(" + what + ") is not 0", x.about(what) != 0);
        }
        x.cut(0);
        for (int what : whats) {
            CHECK.same("about(" + what + ") when OFF", x.about(what), 0);
        }
    }

    private static void wheel() {
        EngineControl x = Rig.on();
        x.turn(240, 1000);
        x.turn(77, 1000);
        zeroThen(x, 1, 2, 3, 4, 5, 6, 10, 11, 18);
        EngineControl y = Rig.on();
        y.turn(160, 1000);
        y.cam(0);
        y.tooth(1);
        zeroThen(y, 2, 5, 7, 9);
        y.key(true);
        CHECK.same("LOST at BOOT", y.about(2), EngineControl.LOST);
        CHECK.same("no PITCH is known", y.tooth(1000), EngineControl.SEEKING);
        CHECK.same("PITCH", y.about(5), 0);
    }

    private static void missed() {
        EngineControl x = Rig.on();
        x.tooth(1000);
        x.tooth(1000);
        x.tooth(3000);
        int tooth = 0;
        for (int i = 0; i < 15 + 43 + 58 + 21; i++) {
            if (i == 15) {
                x.cam(0);
            }
            x.tooth(tooth == 57 ? 3000 : 1000);
            tooth = tooth == 57 ? 0 : tooth + 1;
        }
        zeroThen(x, 8);
    }

    private static void plans() {
        EngineControl x = new EngineControl();
        x.calibrate(5, 1000);
        x.key(true);
        x.turn(240, 1000);
        zeroThen(x, 17, 18, 19);
        EngineControl y = Rig.on();
        y.turn(240, 1000);
        y.turn(60, 1000);
        for (int c = 0; c < 4; c++) {
            CHECK.yes("FUEL", y.cylinder(c, 5) > 0);
            CHECK.yes("ADVANCE", y.cylinder(c, 6) > 0);
        }
        y.cut(0);
        for (int c = 0; c < 4; c++) {
            for (int what = 1; what < 8; what++) {
                CHECK.same("cylinder " + c + ", " + what, y.cylinder(c, what), 0);
            }
        }
    }

    private static void retardAndMisses() {
        EngineControl x = new EngineControl();
        x.calibrate(0, 8);
        x.pin(9, 900);
        x.key(true);
        x.turn(240, 1000);
        x.turn(120, 1000);
        x.turn(30, 1300);
        int retards = 0;
        int misses = 0;
        for (int c = 0; c < 8; c++) {
            retards += x.cylinder(c, 1) > 0 ? 1 : 0;
            misses += x.cylinder(c, 2);
        }
        CHECK.same("RETARD", retards, 8);
        CHECK.yes("MISSES", misses > 0);
        x.cut(0);
        for (int c = 0; c < 8; c++) {
            CHECK.same("RETARD", x.cylinder(c, 1), 0);
            CHECK.same("MISSES", x.cylinder(c, 2), 0);
        }
    }

    private static void outputs() {
        EngineControl x = new EngineControl();
        x.calibrate(0, 8);
        x.calibrate(4, 20000);
        x.key(true);
        for (int i = 0; i < 12; i++) {
            x.turn(240, 20);
        }
        long edges = x.about(14);
        zeroThen(x, 12, 13, 15);
        CHECK.same("EDGES stay", x.about(14), edges);
        EngineControl y = new EngineControl();
        y.calibrate(4, 1000);
        y.key(true);
        y.turn(240, 1000);
        zeroThen(y, 16, 64);
    }

    private static void throttle() {
        EngineControl x = new EngineControl();
        constant(x, 0, 500);
        constant(x, 1, 500);
        x.key(true);
        Rig.loops(x, 2);
        x.pin(2, 400);
        x.pin(3, 400);
        Rig.loops(x, 2);
        x.pin(2, 500);
        x.pin(3, 500);
        Rig.loops(x, 1);
        zeroThen(x, 20, 21, 22, 24, 25, 26, 35);
        x.key(true);
        CHECK.same("SUM at BOOT", x.about(26), 0);
        EngineControl y = new EngineControl();
        y.pin(0, 20);
        y.pin(1, 20);
        y.key(true);
        y.turn(80, 2000);
        zeroThen(y, 23);
    }

    private static void limpAndShut() {
        EngineControl x = new EngineControl();
        x.pin(2, 900);
        x.key(true);
        x.watch(true);
        Rig.loops(x, 30);
        zeroThen(x, 27, 28, 36, 37);
        CHECK.badState("WATCH is not armed", () -> x.answer(8));
        x.key(true);
        CHECK.badState("nor behind BOOT", () -> x.answer(8));
        Rig.loops(x, 35);
        CHECK.same("no WRONG", x.about(37), 0);
    }

    private static void heatAndMixture() {
        EngineControl x = new EngineControl();
        constant(x, 5, 130);
        Rig.store(x, 0, 1, 39, 55);
        x.calibrate(6, 9000);
        x.key(true);
        x.turn(240, 1000);
        zeroThen(x, 29, 30, 31, 32, 34);
        CHECK.same("CELL", x.about(33), 2);
        CHECK.same("HEAD stays", x.about(49), 1);
    }

    private static void trouble() {
        EngineControl x = new EngineControl();
        Rig.store(x, 0, 1, 1, 3 + 4 * 2, 53, 9);
        x.pin(6, 0);
        x.key(true);
        Rig.loops(x, 40);
        CHECK.same("a FRAME", x.frame(0), 6);
        CHECK.same("SEEN", x.trouble(0, 6), 1);
        CHECK.same("FAULTY", x.trouble(6, 1), 1);
        zeroThen(x, 38, 39);
        for (int k = 0; k < 28; k++) {
            for (int what = 0; what < 7; what++) {
                CHECK.same("trouble " + k, x.trouble(k, what), 0);
            }
        }
        for (int what = 0; what < 8; what++) {
            CHECK.same("no FRAME", x.frame(what), EngineControl.NONE);
        }
    }

    private static void tester() {
        EngineControl x = Rig.on();
        x.hear(5, 0);
        Rig.open(x);
        Rig.ask(x, 0x34, 0);
        CHECK.same("OUT", x.about(43), 6);
        zeroThen(x, 40, 41, 42, 71);
        CHECK.same("OUT stays", x.about(43), 6);
        CHECK.same("its bytes, too", x.byteOf(3), 0x74);
    }

    private static void carAndCruise() {
        EngineControl x = Rig.on();
        x.car(0, 5000);
        x.car(1, 4);
        x.press(0);
        x.press(1);
        x.car(0, 4000);
        Rig.loops(x, 2);
        zeroThen(x, 55, 56, 57);
        CHECK.same("V stays", x.about(50), 4000);
        CHECK.same("GEAR stays", x.about(51), 4);
        EngineControl y = Rig.on();
        y.brake(1, true);
        Rig.loops(y, 20);
        zeroThen(y, 54);
        CHECK.no("the contact stays", y.brake(1, true));
    }

    private static void bus() {
        EngineControl x = Rig.on();
        Rig.loops(x, 11);
        Rig.allow(x, 40, 3);
        Rig.allow(x, 40, 3);
        x.noise(300);
        zeroThen(x, 60, 61, 62, 63);
        CHECK.same("ALLOWED", x.about(58), 1000);
        CHECK.same("SINCE", x.about(59), 20);
        CHECK.noSuch("nothing was SENT", () -> x.sent(0, 0));
        x.key(true);
        CHECK.yes("any COUNT", Rig.allow(x, 40, 9));
        // MUTE of before does not make the next one shorter.
        EngineControl y = Rig.on();
        y.noise(300);
        Rig.loops(y, 60);
        y.cut(0);
        y.key(true);
        y.noise(300);
        Rig.loops(y, 99);
        CHECK.same("MUTE", y.about(62), 1);
        Rig.loops(y, 1);
        CHECK.same("MUTE no more", y.about(62), 0);
    }

    private static void lock() {
        EngineControl x = new EngineControl();
        x.lock(7);
        x.key(true);
        for (int i = 0; i < 5; i++) {
            x.frameComes(1281, 0, 0);
        }
        zeroThen(x, 65, 66, 68);
        x.key(true);
        x.frameComes(1281, 0, 0);
        zeroThen(x, 65, 66, 67);
        CHECK.same("the CODE stays", x.lock(7), 7);
        x.key(true);
        for (int i = 0; i < 4; i++) {
            x.frameComes(1281, 0, 0);
        }
        CHECK.same("TRIES began at 0", x.about(67), 4);
    }

    private static void rules() {
        EngineControl x = new EngineControl();
        Rig.build(x, "a=1;b=2;c=3;d=4");
        x.record(1, 0, 1, 2);
        x.unit('a');
        x.key(true);
        Rig.loops(x, 3);
        zeroThen(x, 72, 73, 74, 75, 38);
        CHECK.same("RULES", x.about(76), 4);
        CHECK.same("TEXT", x.about(77), 1);
        CHECK.same("rows", x.about(78), 3);
        CHECK.same("it RUNS", x.about(79), 1);
    }

    // "the MODEL with all that is its, pins with their LOW, HIGH, RATE, OUT, the LOG, the count of words WRITTEN .. stay"
    private static void whatStays() {
        EngineControl x = new EngineControl();
        x.calibrate(0, 6);
        x.limits(8, 600, 700, 5);
        x.line(9, 0, 7, 1, 8);
        x.axis(0, 0, 1, 2, 3, 4);
        x.cell(1, 1, 1, 99);
        x.set(0, true);
        x.load(44);
        x.key(true);
        x.run(37);
        x.pin(8, 650);
        x.key(false);
        Rig.loops(x, 100);
        CHECK.same("OFF", x.about(1), EngineControl.OFF);
        CHECK.same("RPM", x.about(44), 250);
        CHECK.same("WHERE", x.about(45), 37);
        CHECK.same("LOAD", x.load(0), 44);
        CHECK.no("STARTER", x.set(0, true));
        CHECK.same("WRITTEN", x.about(48), 56);
        CHECK.same("HEAD", x.about(49), 1);
        CHECK.same("a pin", x.channel(8, 0), 650);
        CHECK.same("a NUMBER", x.calibrate(0, 4), 6);
        CHECK.same("a LINE", x.lineAt(9, 1), 8);
        CHECK.same("a cell", x.cell(1, 1, 1, 5), 99);
        CHECK.same("an axis", x.value(0, 4, 20), 1800);
        CHECK.same("TIME", x.about(0) > 1000000 ? 1 : 0, 1);
        x.pin(8, 599);
        x.key(true);
        Rig.toLoop(x);
        CHECK.same("LOW stays", x.channel(8, 2), 10);
        x.pin(8, 605);
        Rig.loops(x, 1);
        CHECK.same("RATE stays", x.channel(8, 2), 20);
    }
}
