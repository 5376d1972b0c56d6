/** Boundary cases of THE BUS and THE LOCK. */
public final class BusBoundsTest {
    private static final Check CHECK = new Check();

    public static void main(String[] args) {
        whenTheyAreSent();
        latestSixtyFour();
        countsOfTheirOwn();
        bytesOf513();
        flagsOf513();
        bytesOf1056();
        usedWraps();
        metresWrap();
        challengesAreSent();
        percentageEnds();
        countEnds();
        countInTurn();
        checkOfAFrame();
        otherIdentifiers();
        sinceToTwenty();
        allowedInTheAfterRun();
        errorsEnds();
        muteFrom256On();
        muteForHundredLoops();
        muteHearsAndSendsNothing();
        codeZero();
        challengeByBoots();
        rightKeys();
        fiveTries();
        deafForThousand();
        barredStaysTillOff();
        CHECK.end();
    }

    private static void constant(EngineControl x, int line, int v) {
        x.line(line, -10000, v, 30000, v);
    }

    /** Where the latest FRAME with this identifier stands; -1 without. */
    private static int latest(EngineControl x, int identifier) {
        int i = (int) Math.min(64, x.about(63)) - 1;
        while (i >= 0 && x.sent(i, 0) != identifier) {
            i--;
        }
        return i;
    }

    private static int byteOf(EngineControl x, int identifier, int n) {
        int i = latest(x, identifier);
        int word = x.sent(i, n < 4 ? 1 : 2);
        return word >>> 24 - 8 * (n % 4) & 255;
    }

    private static int check(EngineControl x, int i) {
        return Rig.checkOf(x.sent(i, 1), x.sent(i, 2) >>> 8);
    }

    // "if LOOPS is a multiple of 2, 513 is SENT", "If it is a multiple of 10, 1056", "a multiple of 50 and BARRED, 1280"
    private static void whenTheyAreSent() {
        EngineControl x = new EngineControl();
        x.lock(7);
        x.key(true);
        int due = 0;
        for (int loop = 1; loop <= 51; loop++) {
            Rig.loops(x, 1);
            int before = due;
            due += loop % 2 == 0 ? 1 : 0;
            due += loop % 10 == 0 ? 1 : 0;
            due += loop % 50 == 0 ? 1 : 0;
            CHECK.same("SENT behind LOOP " + loop, x.about(63), due);
            if (due > before) {
                CHECK.same("513 first", x.sent(before, 0), 513);
            }
            if (due > before + 1) {
                CHECK.same("1056 then", x.sent(before + 1, 0), 1056);
            }
            if (due > before + 2) {
                CHECK.same("1280 last", x.sent(before + 2, 0), 1280);
            }
        }
        for (int i = 0; i < due; i++) {
            CHECK.same("CHECK", x.sent(i, 2) & 255, check(x, i));
        }
    }

    // "the latest 64 (none when it is OFF)"
    private static void latestSixtyFour() {
        EngineControl x = Rig.on();
        CHECK.noSuch("none yet", () -> x.sent(0, 0));
        // 60 FRAMES in 100 LOOPS, 63 in 106, 64 in 108, 65 and 66 in 110.
        Rig.loops(x, 107);
        CHECK.same("63", x.about(63), 63);
        CHECK.noSuch("63", () -> x.sent(63, 0));
        CHECK.same("the oldest", x.sent(0, 2) >>> 8 & 255, 0);
        Rig.loops(x, 1);
        CHECK.same("64", x.about(63), 64);
        CHECK.same("the latest", x.sent(63, 0), 513);
        CHECK.noSuch("64", () -> x.sent(64, 0));
        CHECK.same("the oldest", x.sent(0, 2) >>> 8 & 255, 0);
        Rig.loops(x, 2);
        CHECK.same("66 ever", x.about(63), 66);
        CHECK.noSuch("64", () -> x.sent(64, 0));
        CHECK.same("the oldest two are gone", x.sent(0, 2) >>> 8 & 255, 2);
        CHECK.same("the latest", x.sent(63, 0), 1056);
        x.cut(0);
        CHECK.noSuch("none when OFF", () -> x.sent(0, 0));
    }

    // "COUNT (0 at first, one more, modulo 16, behind each)", "a COUNT of its own"
    private static void countsOfTheirOwn() {
        EngineControl x = Rig.on();
        for (int i = 0; i < 18; i++) {
            Rig.loops(x, 2);
            CHECK.same("COUNT of 513", byteOf(x, 513, 6), i % 16);
        }
        EngineControl y = Rig.on();
        for (int i = 0; i < 18; i++) {
            Rig.loops(y, 10);
            CHECK.same("COUNT of 1056", byteOf(y, 1056, 6), i % 16);
        }
        y.cut(0);
        y.key(true);
        Rig.loops(y, 10);
        CHECK.same("COUNT of 1056 behind BOOT", byteOf(y, 1056, 6), 0);
        CHECK.same("COUNT of 513 behind BOOT", byteOf(y, 513, 6), 4);
    }

    // "SPEED * 4 (two bytes, the higher first, cut to 65535), PLATE / 4, PEDAL / 4 (each cut to 0 .. 255), .. V / 200"
    private static void bytesOf513() {
        int[][] quarters = {{-10000, 0}, {-4, 0}, {-1, 0}, {3, 0}, {4, 1}, {7, 1}, {1019, 254}, {1020, 255}, {1023, 255},
            {1024, 255}, {30000, 255}};
        for (int[] one : quarters) {
            EngineControl x = new EngineControl();
            constant(x, 0, one[0]);
            constant(x, 1, one[0]);
            constant(x, 2, 100);
            constant(x, 3, 100);
            x.key(true);
            Rig.loops(x, 2);
            CHECK.same("PEDAL " + one[0], byteOf(x, 513, 3), one[1]);
            CHECK.same("PLATE 100", byteOf(x, 513, 2), 25);
            EngineControl y = new EngineControl();
            constant(y, 2, one[0]);
            constant(y, 3, one[0]);
            constant(y, 0, 200);
            constant(y, 1, 200);
            y.key(true);
            Rig.loops(y, 2);
            CHECK.same("PLATE " + one[0], byteOf(y, 513, 2), one[1]);
            CHECK.same("PEDAL 200", byteOf(y, 513, 3), 50);
        }
        int[][] speeds = {{62, 16129 * 4}, {61, 65535}, {20, 65535}, {1000, 4000}, {3906, 1024}};
        for (int[] one : speeds) {
            EngineControl x = Rig.on();
            x.turn(120, one[0]);
            CHECK.same("HALF", x.about(2), EngineControl.HALF);
            do {
                Rig.toLoop(x);
            } while (x.about(11) % 2 != 0);
            CHECK.same("PITCH " + one[0], byteOf(x, 513, 0) * 256 + byteOf(x, 513, 1), one[1]);
        }
        int[][] roads = {{0, 0}, {199, 0}, {200, 1}, {29999, 149}, {30000, 150}};
        for (int[] one : roads) {
            EngineControl x = Rig.on();
            x.car(0, one[0]);
            Rig.loops(x, 2);
            CHECK.same("V " + one[0], byteOf(x, 513, 5), one[1]);
        }
    }

    // "LIMP + 2 SHUT + 4 CUTTING + 8 BRAKING + 16 HOLDING"
    private static void flagsOf513() {
        EngineControl none = Rig.on();
        Rig.loops(none, 2);
        CHECK.same("none", byteOf(none, 513, 4), 0);
        EngineControl limp = new EngineControl();
        limp.pin(2, 900);
        limp.key(true);
        Rig.loops(limp, 10);
        CHECK.same("LIMP", byteOf(limp, 513, 4), 1);
        EngineControl shut = Rig.on();
        shut.watch(true);
        Rig.loops(shut, 30);
        CHECK.same("SHUT", byteOf(shut, 513, 4), 2);
        EngineControl cutting = new EngineControl();
        cutting.calibrate(5, 1000);
        cutting.key(true);
        cutting.turn(140, 1000);
        CHECK.same("CUTTING", byteOf(cutting, 513, 4), 4);
        EngineControl braking = Rig.on();
        braking.brake(1, true);
        Rig.loops(braking, 2);
        CHECK.same("BRAKING", byteOf(braking, 513, 4), 8);
        EngineControl holding = Rig.on();
        holding.car(0, 5000);
        holding.car(1, 5);
        holding.press(0);
        Rig.loops(holding, 2);
        CHECK.same("READY is not HOLDING", byteOf(holding, 513, 4), 0);
        holding.press(1);
        Rig.loops(holding, 2);
        CHECK.same("HOLDING", byteOf(holding, 513, 4), 16);
        EngineControl all = new EngineControl();
        all.calibrate(5, 1000);
        all.calibrate(7, 1000);
        all.pin(2, 900);
        all.brake(0, true);
        all.key(true);
        all.watch(true);
        Rig.loops(all, 30);
        all.turn(140, 1000);
        CHECK.same("LIMP, SHUT, CUTTING, BRAKING", byteOf(all, 513, 4), 15);
    }

    // "1056: COOLANT + 40 (cut to 0 .. 255), .. 128 LAMP + FANS (1, 2)"
    private static void bytesOf1056() {
        int[][] degrees = {{-10000, 0}, {-41, 0}, {-40, 0}, {-39, 1}, {49, 89}, {215, 255}, {216, 255}, {30000, 255}};
        for (int[] one : degrees) {
            EngineControl x = new EngineControl();
            constant(x, 5, one[0]);
            x.key(true);
            Rig.loops(x, 10);
            CHECK.same("COOLANT " + one[0], byteOf(x, 1056, 0), one[1]);
        }
        int[][] fans = {{97, 0}, {98, 1}, {103, 1}, {104, 3}};
        for (int[] one : fans) {
            EngineControl x = new EngineControl();
            constant(x, 5, one[0]);
            x.key(true);
            Rig.loops(x, 10);
            CHECK.same("FANS at " + one[0], byteOf(x, 1056, 5), one[1]);
        }
        EngineControl two = new EngineControl();
        two.calibrate(14, 140);
        constant(two, 5, 110);
        two.key(true);
        Rig.loops(two, 10);
        CHECK.same("FAN 2 alone", byteOf(two, 1056, 5), 2);
        EngineControl lamp = new EngineControl();
        Rig.build(lamp, "c=5");
        lamp.key(true);
        Rig.loops(lamp, 10);
        CHECK.same("LAMP", byteOf(lamp, 1056, 5), 128);
    }

    // "USED / 1000 .. (two bytes each, modulo 65536)"
    private static void usedWraps() {
        EngineControl x = new EngineControl();
        x.calibrate(0, 8);
        x.calibrate(5, 9000);
        Rig.everyCell(x, 0, 20000);
        constant(x, 11, 5000);
        constant(x, 10, 1000);
        constant(x, 5, 20);
        x.key(true);
        for (int i = 0; i < 175; i++) {
            x.turn(240, 300);
        }
        Rig.toLoop(x);
        while (x.about(11) % 10 != 0) {
            Rig.toLoop(x);
        }
        CHECK.yes("USED " + x.about(64), x.about(64) > 65536000);
        CHECK.same("USED / 1000", byteOf(x, 1056, 1) * 256 + byteOf(x, 1056, 2), x.about(64) / 1000 % 65536);
        EngineControl y = new EngineControl();
        y.calibrate(0, 1);
        Rig.everyCell(y, 0, 1998);
        constant(y, 11, 1);
        constant(y, 10, 1000);
        constant(y, 5, 20);
        y.key(true);
        y.turn(240, 1000);
        CHECK.same("USED", y.about(64), 1999);
        while (y.about(11) % 10 != 0) {
            Rig.toLoop(y);
        }
        CHECK.same("1999 / 1000", byteOf(y, 1056, 2), 1);
        y.cut(0);
        CHECK.same("since BOOT", y.about(64), 0);
    }

    private static void metresWrap() {
        EngineControl x = Rig.on();
        x.car(0, 30000);
        for (int i = 0; i < 33; i++) {
            x.turn(240, 100000);
        }
        CHECK.yes("METRES " + x.about(52), x.about(52) > 65536);
        CHECK.same("METRES", byteOf(x, 1056, 3) * 256 + byteOf(x, 1056, 4), x.about(52) % 65536);
        EngineControl y = Rig.on();
        y.car(0, 30000);
        y.pass(2000000);
        y.pass(2000000);
        CHECK.same("333", y.about(52), 333);
        CHECK.same("both bytes", byteOf(y, 1056, 3) * 256 + byteOf(y, 1056, 4), 333);
    }

    // "1280: CHALLENGE (four bytes), 0, 0, 0, CHECK"
    private static void challengesAreSent() {
        EngineControl x = new EngineControl();
        x.lock(-1);
        x.key(true);
        Rig.loops(x, 49);
        CHECK.same("49 LOOPS", latest(x, 1280), -1);
        Rig.loops(x, 1);
        int at = latest(x, 1280);
        CHECK.same("CHALLENGE", x.sent(at, 1), x.about(66));
        CHECK.same("0, 0, 0", x.sent(at, 2) >>> 8, 0);
        CHECK.same("CHECK", x.sent(at, 2) & 255, check(x, at));
        EngineControl y = Rig.on();
        Rig.loops(y, 100);
        CHECK.same("not BARRED", latest(y, 1280), -1);
    }

    // "byte 0 a percentage (100 at most)", "ALLOWED is 10 times the percentage, SINCE 0"
    private static void percentageEnds() {
        int[][] all = {{0, 1}, {1, 1}, {99, 1}, {100, 1}, {101, 0}, {128, 0}, {255, 0}};
        for (int[] one : all) {
            EngineControl x = Rig.on();
            CHECK.same("percentage " + one[0], Rig.allow(x, one[0], 0) ? 1 : 0, one[1]);
            CHECK.same("ALLOWED", x.about(58), one[1] == 1 ? 10 * one[0] : 1000);
            CHECK.same("SINCE", x.about(59), one[1] == 1 ? 0 : 20);
            CHECK.same("BADFRAMES", x.about(60), 1 - one[1]);
        }
    }

    // "byte 6 a COUNT (15 at most)"
    private static void countEnds() {
        int[][] all = {{0, 1}, {15, 1}, {16, 0}, {128, 0}, {255, 0}};
        for (int[] one : all) {
            EngineControl x = Rig.on();
            CHECK.same("COUNT " + one[0], Rig.allow(x, 50, one[0]) ? 1 : 0, one[1]);
            CHECK.same("BADFRAMES", x.about(60), 1 - one[1]);
        }
        EngineControl x = Rig.on();
        CHECK.yes("15", Rig.allow(x, 50, 15));
        CHECK.no("16", Rig.allow(x, 50, 16));
        CHECK.yes("0 is behind 15", Rig.allow(x, 50, 0));
    }

    // "its COUNT is one more, modulo 16, than that of the right one before"
    private static void countInTurn() {
        EngineControl x = Rig.on();
        CHECK.yes("any at first", Rig.allow(x, 50, 9));
        CHECK.no("the same", Rig.allow(x, 60, 9));
        CHECK.no("two more", Rig.allow(x, 60, 11));
        CHECK.no("one less", Rig.allow(x, 60, 8));
        CHECK.same("ALLOWED is as before", x.about(58), 500);
        CHECK.same("BADFRAMES", x.about(60), 3);
        CHECK.yes("one more than the right one", Rig.allow(x, 60, 10));
        for (int count = 11; count < 36; count++) {
            CHECK.yes("COUNT " + count % 16, Rig.allow(x, 70, count % 16));
        }
        CHECK.same("BADFRAMES", x.about(60), 3);
    }

    // "byte 7 CHECK": of all seven bytes
    private static void checkOfAFrame() {
        for (int n = 0; n < 8; n++) {
            EngineControl x = Rig.on();
            int high = 50 << 24 | 0x112233;
            int low = 0x44558000 + (3 << 8);
            low = low & 0xFFFF00FF | 3 << 8;
            low |= Rig.checkOf(high, low >>> 8);
            int wrongHigh = n < 4 ? high ^ 1 << 24 - 8 * n : high;
            int wrongLow = n >= 4 ? low ^ 1 << 56 - 8 * n : low;
            CHECK.no("byte " + n + " is another", x.frameComes(336, wrongHigh, wrongLow));
            CHECK.same("BADFRAMES", x.about(60), 1);
            CHECK.yes("right", x.frameComes(336, high, low));
        }
    }

    // "Others do nothing."
    private static void otherIdentifiers() {
        for (int identifier : new int[] {0, 335, 337, 513, 1056, 1280, 1281, 1282, 2047}) {
            EngineControl x = Rig.on();
            int high = 50 << 24;
            CHECK.no("identifier " + identifier, x.frameComes(identifier, high, Rig.checkOf(high, 0)));
            CHECK.same("BADFRAMES", x.about(60), 0);
            CHECK.same("ALLOWED", x.about(58), 1000);
            CHECK.same("TRIES", x.about(67), 0);
        }
    }

    // "in 13a., last of all, SINCE grows by 1 (20 at most), and at 20 ALLOWED is 1000", "(any, .. or SINCE is 20)"
    private static void sinceToTwenty() {
        EngineControl x = Rig.on();
        Rig.loops(x, 3);
        CHECK.same("20 at first, and at most", x.about(59), 20);
        Rig.allow(x, 30, 4);
        Rig.loops(x, 19);
        CHECK.same("SINCE 19", x.about(59), 19);
        CHECK.same("ALLOWED", x.about(58), 300);
        CHECK.no("not any COUNT at 19", Rig.allow(x, 40, 9));
        Rig.loops(x, 1);
        CHECK.same("SINCE 20", x.about(59), 20);
        CHECK.same("ALLOWED", x.about(58), 1000);
        CHECK.yes("any COUNT at 20", Rig.allow(x, 40, 9));
        Rig.loops(x, 19);
        CHECK.yes("the next COUNT at 19", Rig.allow(x, 45, 10));
        CHECK.same("SINCE", x.about(59), 0);
        // The LOOP in which SINCE becomes 20 still has the old ALLOWED for its TARGET.
        EngineControl y = new EngineControl();
        constant(y, 0, 900);
        constant(y, 1, 900);
        y.calibrate(18, 1000);
        y.key(true);
        Rig.allow(y, 30, 0);
        Rig.loops(y, 20);
        CHECK.same("TARGET", y.about(24), 300);
        Rig.loops(y, 1);
        CHECK.same("TARGET", y.about(24), 900);
    }

    // "HEARD, while the controller has power"
    private static void allowedInTheAfterRun() {
        EngineControl x = Rig.on();
        x.key(false);
        CHECK.yes("in the AFTER-RUN", Rig.allow(x, 50, 0));
        CHECK.same("ERRORS", x.noise(5), 5);
        Rig.loops(x, 2);
        CHECK.same("it is SENT there, too", x.about(63), 1);
        x.cut(0);
        CHECK.no("OFF", Rig.allow(x, 50, 1));
        CHECK.same("BADFRAMES", x.about(60), 0);
        CHECK.same("ERRORS", x.noise(5), 0);
    }

    // "ERRORS is 1 less (0 at least) if it is not MUTE"
    private static void errorsEnds() {
        EngineControl x = Rig.on();
        CHECK.same("2", x.noise(2), 2);
        Rig.loops(x, 1);
        CHECK.same("1", x.about(61), 1);
        Rig.loops(x, 1);
        CHECK.same("0", x.about(61), 0);
        Rig.loops(x, 1);
        CHECK.same("0 at least", x.about(61), 0);
    }

    // "from 256 on it is MUTE"
    private static void muteFrom256On() {
        EngineControl x = Rig.on();
        CHECK.same("255", x.noise(255), 255);
        CHECK.same("not MUTE", x.about(62), 0);
        CHECK.same("256", x.noise(1), 256);
        CHECK.same("MUTE", x.about(62), 1);
        CHECK.same("no more while MUTE", x.noise(300), 256);
        EngineControl y = Rig.on();
        y.noise(255);
        CHECK.same("555", y.noise(300), 555);
        CHECK.same("MUTE", y.about(62), 1);
        EngineControl z = Rig.on();
        z.noise(255);
        Rig.loops(z, 1);
        CHECK.same("254 and 1", z.noise(1), 255);
        CHECK.same("not MUTE", z.about(62), 0);
    }

    // "MUTE ends, with ERRORS 0, in its 100th LOOP. Then, if not MUTE: .."
    private static void muteForHundredLoops() {
        EngineControl x = Rig.on();
        x.noise(300);
        Rig.loops(x, 99);
        CHECK.same("99 LOOPS", x.about(62), 1);
        CHECK.same("ERRORS do not shrink", x.about(61), 300);
        CHECK.same("nothing is SENT", x.about(63), 0);
        Rig.loops(x, 1);
        CHECK.same("the 100th", x.about(62), 0);
        CHECK.same("ERRORS", x.about(61), 0);
        CHECK.same("513 and 1056 in this LOOP", x.about(63), 2);
        CHECK.same("COUNT did not go on", byteOf(x, 513, 6), 0);
        Rig.loops(x, 7);
        x.noise(256);
        Rig.loops(x, 99);
        CHECK.same("MUTE anew for 100", x.about(62), 1);
        Rig.loops(x, 1);
        CHECK.same("it ended", x.about(62), 0);
    }

    private static void muteHearsAndSendsNothing() {
        EngineControl x = new EngineControl();
        x.lock(5);
        x.key(true);
        Rig.allow(x, 50, 0);
        x.noise(256);
        CHECK.no("336", Rig.allow(x, 60, 1));
        CHECK.no("a wrong one", Rig.allow(x, 60, 9));
        CHECK.same("BADFRAMES", x.about(60), 0);
        CHECK.same("ALLOWED", x.about(58), 500);
        CHECK.no("1281", x.frameComes(1281, 1, 1));
        CHECK.same("TRIES", x.about(67), 0);
        Rig.loops(x, 20);
        CHECK.same("SINCE goes on", x.about(59), 20);
        CHECK.same("ALLOWED", x.about(58), 1000);
    }

    // "At BOOT, with a CODE other than 0, it is BARRED"
    private static void codeZero() {
        for (int code : new int[] {0, 1, -1, Integer.MIN_VALUE}) {
            EngineControl x = new EngineControl();
            x.lock(code);
            CHECK.same("OFF", x.about(65), 0);
            x.key(true);
            CHECK.same("CODE " + code, x.about(65), code == 0 ? 0 : 1);
            CHECK.yes("CHALLENGE", x.about(66) == 0 == (code == 0));
        }
        EngineControl x = new EngineControl();
        x.lock(5);
        x.lock(0);
        x.key(true);
        CHECK.same("none again", x.about(65), 0);
    }

    // "CHALLENGE is BOOTS (this one counted) * 1103515245 + 12345 (ints)"
    private static void challengeByBoots() {
        EngineControl x = new EngineControl();
        x.key(true);
        x.cut(0);
        x.lock(5);
        for (int boots = 2; boots < 9; boots++) {
            x.key(true);
            CHECK.same("BOOTS", x.about(69), boots);
            CHECK.same("CHALLENGE", x.about(66), boots * 1103515245 + 12345);
            x.key(false);
            x.key(true);
            CHECK.same("no BOOT", x.about(66), boots * 1103515245 + 12345);
            x.cut(0);
            CHECK.same("OFF", x.about(66), 0);
        }
    }

    private static int rightKey(EngineControl x, int code) {
        int mixed = ((int) x.about(66) ^ code) * -1640531535;
        return mixed ^ mixed >>> 15;
    }

    // "right if they are x exclusive-or x shifted down by 15 without sign"
    private static void rightKeys() {
        for (int code : new int[] {1, 5, -1, 12345678, Integer.MIN_VALUE, Integer.MAX_VALUE, -987654321}) {
            EngineControl x = new EngineControl();
            x.lock(code);
            x.key(true);
            int key = rightKey(x, code);
            CHECK.no("another", x.frameComes(1281, key ^ 1, 0));
            CHECK.same("TRIES", x.about(67), 1);
            CHECK.yes("CODE " + code, x.frameComes(1281, key, -1));
            CHECK.same("not BARRED", x.about(65), 0);
            CHECK.same("CHALLENGE", x.about(66), 0);
            CHECK.no("not BARRED any more", x.frameComes(1281, key, -1));
            CHECK.same("TRIES do not grow", x.about(67), 1);
        }
    }

    // "else TRIES grows by 1; at 5 it is 0, and it is DEAF for 1000 LOOPS"
    private static void fiveTries() {
        EngineControl x = new EngineControl();
        x.lock(5);
        x.key(true);
        for (int i = 1; i <= 4; i++) {
            x.frameComes(1281, 0, 0);
            CHECK.same("TRIES", x.about(67), i);
            CHECK.same("not DEAF", x.about(68), 0);
        }
        EngineControl y = new EngineControl();
        y.lock(5);
        y.key(true);
        for (int i = 1; i <= 4; i++) {
            y.frameComes(1281, 0, 0);
        }
        CHECK.yes("the fifth may be right", y.frameComes(1281, rightKey(y, 5), 0));
        x.frameComes(1281, 0, 0);
        CHECK.same("TRIES", x.about(67), 0);
        CHECK.same("DEAF", x.about(68), 1000);
        CHECK.no("right, but DEAF", x.frameComes(1281, rightKey(x, 5), 0));
        CHECK.no("wrong, but DEAF", x.frameComes(1281, 0, 0));
        CHECK.same("TRIES", x.about(67), 0);
        CHECK.same("BARRED", x.about(65), 1);
    }

    private static void deafForThousand() {
        EngineControl x = new EngineControl();
        x.lock(5);
        x.key(true);
        for (int i = 0; i < 5; i++) {
            x.frameComes(1281, 0, 0);
        }
        Rig.loops(x, 1);
        CHECK.same("999 more", x.about(68), 999);
        Rig.loops(x, 998);
        CHECK.same("1 more", x.about(68), 1);
        CHECK.no("DEAF yet", x.frameComes(1281, rightKey(x, 5), 0));
        Rig.loops(x, 1);
        CHECK.same("0", x.about(68), 0);
        CHECK.yes("not DEAF", x.frameComes(1281, rightKey(x, 5), 0));
        Rig.loops(x, 1);
        CHECK.same("0 still", x.about(68), 0);
        EngineControl y = new EngineControl();
        y.lock(5);
        y.key(true);
        for (int i = 0; i < 5; i++) {
            y.frameComes(1281, 0, 0);
        }
        y.noise(300);
        Rig.loops(y, 10);
        CHECK.same("MUTE does not matter", y.about(68), 990);
        y.cut(0);
        CHECK.same("OFF", y.about(68), 0);
        y.key(true);
        CHECK.yes("another BOOT", y.frameComes(1281, rightKey(y, 5), 0));
    }

    private static void barredStaysTillOff() {
        for (int identifier : new int[] {0, 336, 513, 1280, 1282, 2047}) {
            EngineControl z = new EngineControl();
            z.lock(5);
            z.key(true);
            CHECK.no("identifier " + identifier, z.frameComes(identifier, rightKey(z, 5), 0));
            CHECK.same("BARRED", z.about(65), 1);
            CHECK.same("TRIES", z.about(67), 0);
        }
        EngineControl x = new EngineControl();
        x.lock(5);
        x.key(true);
        CHECK.yes("right", x.frameComes(1281, rightKey(x, 5), 0));
        x.key(false);
        x.key(true);
        CHECK.same("KEY on in the AFTER-RUN does not bar", x.about(65), 0);
        x.cut(0);
        x.key(true);
        CHECK.same("a BOOT does", x.about(65), 1);
        EngineControl y = new EngineControl();
        y.lock(5);
        y.key(true);
        y.key(false);
        CHECK.yes("1281 in the AFTER-RUN", y.frameComes(1281, rightKey(y, 5), 0));
    }
}
