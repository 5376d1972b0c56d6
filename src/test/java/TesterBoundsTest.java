/** Boundary cases of THE TESTER'S LINE. */
public final class TesterBoundsTest {
    private static final Check CHECK = new Check();

    public static void main(String[] args) {
        pauses();
        firstBytes();
        targets();
        sums();
        longestRequests();
        lowestEightBits();
        askTimes();
        withoutSession();
        servicesNotNamed();
        lengths();
        pidsThere();
        pidsOfTheFrame();
        pidEnds();
        mixtureStates();
        advanceOfThePlan();
        loopsByHundred();
        lampAndCount();
        codesNoneAndAll();
        clearNeedsStandstill();
        clearAtTheLeastSpeed();
        types();
        numbersThere();
        seedsAndKeys();
        threeWrongKeys();
        calibrationOrder();
        calibrationEnds();
        sessionEndsOpen();
        roomForSixHundred();
        CHECK.end();
    }

    private static EngineControl inSession() {
        EngineControl x = Rig.on();
        Rig.ask(x, 0x81);
        x.drain();
        return x;
    }

    /** Hears all bytes and a SUM, each so many ticks behind the one before. */
    private static void hear(EngineControl x, int after, int... bytes) {
        int sum = 0;
        for (int b : bytes) {
            x.hear(b, after);
            sum += b & 255;
        }
        x.hear(sum, after);
    }

    // "A byte that is heard more than 20,000 ticks behind the one before begins anew"
    private static void pauses() {
        EngineControl x = inSession();
        hear(x, 20000, 129, 17, 241, 0x3E);
        CHECK.same("20000 between all", Rig.data(x), "7E");
        for (int late = 1; late < 5; late++) {
            EngineControl y = inSession();
            int[] bytes = {129, 17, 241, 0x3E, 129 + 17 + 241 + 0x3E & 255};
            for (int i = 0; i < 5; i++) {
                y.hear(bytes[i], i == late ? 20001 : 0);
            }
            CHECK.same("20001 before byte " + late, y.about(43), 0);
            // The byte behind the pause can be FMT or not.
            int dropped = 0;
            for (int i = late; i < 5 && dropped == i - late; i++) {
                dropped += bytes[i] < 129 || bytes[i] == 192 ? 1 : 0;
            }
            CHECK.same("NOISE behind a pause before byte " + late, y.about(42), dropped);
        }
        // What is dropped counts as the byte before, too; and the pause is looked at for each byte.
        EngineControl z = inSession();
        z.hear(129, 0);
        z.hear(17, 20000);
        z.pass(20000);
        z.hear(241, 0);
        z.pass(10000);
        z.hear(0x3E, 10000);
        z.hear(129 + 17 + 241 + 0x3E, 0);
        CHECK.same("20000 in two calls", Rig.data(z), "7E");
    }

    // "FMT, which is 128 + n or 192 + n, n 1 .. 63", "A first byte that can't be FMT is dropped, NOISE grows by 1."
    private static void firstBytes() {
        for (int b = 0; b < 256; b++) {
            EngineControl x = inSession();
            x.hear(b, 0);
            boolean can = b >= 129 && b <= 191 || b >= 193;
            CHECK.same("NOISE by " + b, x.about(42), can ? 0 : 1);
            if (!can) {
                hear(x, 0, 129, 17, 241, 0x3E);
                CHECK.same("it was dropped", Rig.data(x), "7E");
            }
        }
    }

    // "with TGT 17 (FMT below 192) or 51 (from 192 on) it is handled; otherwise nothing. The row is empty then."
    private static void targets() {
        int[][] all = {{129, 17, 1}, {129, 51, 0}, {129, 16, 0}, {129, 18, 0}, {193, 51, 1}, {193, 17, 0}, {193, 50, 0},
            {193, 52, 0}, {129, 0, 0}, {193, 255, 0}};
        for (int[] one : all) {
            EngineControl x = inSession();
            hear(x, 0, one[0], one[1], 5, 0x3E);
            CHECK.same("FMT " + one[0] + ", TGT " + one[1], Rig.data(x), one[2] == 1 ? "7E" : "");
            CHECK.same("no NOISE", x.about(42), 0);
            x.drain();
            hear(x, 0, 129, 17, 5, 0x3E);
            CHECK.same("the row is empty then", Rig.data(x), "7E");
            CHECK.same("SRC", x.byteOf(1), 5);
        }
    }

    // "a SUM: the sum of all before modulo 256", "with another SUM NOISE grows by 1"
    private static void sums() {
        int sum = 129 + 17 + 241 + 0x3E & 255;
        for (int off = -1; off <= 1; off++) {
            EngineControl x = inSession();
            x.hear(129, 0);
            x.hear(17, 0);
            x.hear(241, 0);
            x.hear(0x3E, 0);
            x.hear(sum + off, 0);
            CHECK.same("SUM off by " + off, Rig.data(x), off == 0 ? "7E" : "");
            CHECK.same("NOISE", x.about(42), Math.abs(off));
            x.drain();
            hear(x, 0, 129, 17, 241, 0x3E);
            CHECK.same("the row is empty then", Rig.data(x), "7E");
        }
        // For another TGT a wrong SUM is NOISE, too.
        EngineControl y = inSession();
        y.hear(129, 0);
        y.hear(99, 0);
        y.hear(241, 0);
        y.hear(0x3E, 0);
        y.hear(0, 0);
        CHECK.same("NOISE", y.about(42), 1);
    }

    private static void longestRequests() {
        for (int fmt : new int[] {191, 255}) {
            for (int missing = 0; missing <= 1; missing++) {
                EngineControl x = inSession();
                int sum = fmt + (fmt == 191 ? 17 : 51) + 7;
                x.hear(fmt, 0);
                x.hear(fmt == 191 ? 17 : 51, 0);
                x.hear(7, 0);
                for (int i = 0; i < 63; i++) {
                    x.hear(i == 0 ? 0x3E : 200, 0);
                    sum += i == 0 ? 0x3E : 200;
                }
                CHECK.same("not whole", x.about(43), 0);
                x.hear(sum + missing, 0);
                CHECK.same("63 DATA", Rig.data(x), missing == 0 ? "7F 3E 12" : "");
                CHECK.same("NOISE", x.about(42), missing);
            }
        }
    }

    // "a byte (the lowest eight bits) is heard", "(their lowest eight bits)"
    private static void lowestEightBits() {
        EngineControl x = inSession();
        x.hear(129 - 256, 0);
        x.hear(17 + 256, 0);
        x.hear(241 + 65536, 0);
        x.hear(Integer.MIN_VALUE + 0x3E, 0);
        x.hear(129 + 17 + 241 + 0x3E, 0);
        CHECK.same("the lowest eight bits", Rig.data(x), "7E");
        x.drain();
        x.ask(2, 0x101, -256 + 28, 5, 5, 5);
        CHECK.same("of ask(), too", Rig.data(x), "41 1C 06");
    }

    // "the first byte behind 30,000 ticks, each other one 1,000 behind the one before"
    private static void askTimes() {
        for (int n = 1; n <= 5; n++) {
            EngineControl x = inSession();
            long before = x.about(0);
            // What is not whole is dropped by the 30,000 ticks.
            x.hear(130, 0);
            x.ask(n, 0x3E, 0, 0, 0, 0);
            CHECK.same("ticks", x.about(0) - before, 30000 + 1000 * (n + 3));
            CHECK.same("answer", Rig.data(x), n == 1 ? "7E" : "7F 3E 12");
            CHECK.same("SRC", x.byteOf(1), 241);
        }
    }

    // "Without a SESSION only 81h is handled (with whatever n)."
    private static void withoutSession() {
        for (int service : new int[] {0x82, 0x3E, 1, 2, 3, 4, 7, 9, 0x21, 0x27, 0x3B, 0x34, 0x36, 0x37, 0x99, 0x80}) {
            EngineControl x = Rig.on();
            CHECK.same("service " + service, Rig.ask(x, service), "");
            CHECK.same("no NOISE", x.about(42), 0);
        }
        EngineControl x = Rig.on();
        CHECK.same("81h with n 2", Rig.ask(x, 0x81, 0), "7F 81 12");
        CHECK.same("no SESSION by it", x.about(40), 0);
        CHECK.same("81h", Rig.ask(x, 0x81), "C1 EA 8F");
        CHECK.same("SESSION", x.about(40), 1);
        CHECK.same("81h with n 5", Rig.ask(x, 0x81, 0, 0, 0, 0), "7F 81 12");
        CHECK.same("SESSION yet", x.about(40), 1);
    }

    private static int lengthOf(int service) {
        switch (service) {
            case 0x81: case 0x82: case 0x3E: case 3: case 7: case 4: return 1;
            case 1: case 9: case 0x21: case 0x34: return 2;
            case 2: case 0x37: return 3;
            case 0x36: return 4;
            case 0x3B: return 5;
            default: return 0;
        }
    }

    // "r is 11h for a service not named here or at the BOOK"
    private static void servicesNotNamed() {
        for (int service = 0; service < 256; service++) {
            if (lengthOf(service) == 0 && service != 0x27) {
                EngineControl x = inSession();
                String due = String.format("7F %02X 11", service);
                CHECK.same("service " + service, Rig.ask(x, service), due);
                CHECK.same("with n 3", Rig.ask(x, service, 1, 2), due);
            }
        }
    }

    // "12h if n is not as told"
    private static void lengths() {
        for (int service : new int[] {0x81, 0x82, 0x3E, 3, 7, 4, 1, 9, 0x21, 0x34, 2, 0x37, 0x36, 0x3B}) {
            for (int n = 1; n <= 5; n++) {
                EngineControl x = inSession();
                int[] data = new int[n];
                data[0] = service;
                if (service == 2 && n > 1) {
                    data[1] = 4;
                }
                String wrong = String.format("7F %02X 12", service);
                String got = Rig.ask(x, data);
                CHECK.same("service " + service + ", n " + n, got.equals(wrong) ? 1 : 0, n == lengthOf(service) ? 0 : 1);
            }
        }
        for (int n = 1; n <= 5; n++) {
            EngineControl x = inSession();
            int[] seed = {0x27, 1, 0, 0, 0};
            int[] key = {0x27, 2, 0, 0, 0};
            String first = Rig.ask(x, java.util.Arrays.copyOf(seed, n));
            CHECK.same("27h 01h, n " + n, first.equals("7F 27 12") ? 1 : 0, n == 2 ? 0 : 1);
            String second = Rig.ask(x, java.util.Arrays.copyOf(key, n));
            CHECK.same("27h 02h, n " + n, second.equals("7F 27 12") ? 1 : 0, n == 4 ? 0 : 1);
        }
        for (int second : new int[] {0, 3, 255}) {
            EngineControl x = inSession();
            CHECK.same("27h " + second, Rig.ask(x, 0x27, second), "7F 27 12");
            CHECK.same("27h " + second + ", n 4", Rig.ask(x, 0x27, second, 0, 0), "7F 27 12");
        }
    }

    // "1 3 4 5 6 7 11 12 14 15 17 20 28 31 are there", "12h .. a PID or type isn't there"
    private static void pidsThere() {
        int[] there = {0, 1, 3, 4, 5, 6, 7, 11, 12, 14, 15, 17, 20, 28, 31};
        int[] sizes = {4, 4, 2, 1, 1, 1, 1, 1, 2, 1, 1, 1, 2, 1, 2};
        for (int pid = 0; pid < 256; pid++) {
            int size = 0;
            for (int i = 0; i < there.length; i++) {
                size = there[i] == pid ? sizes[i] : size;
            }
            EngineControl x = inSession();
            String got = Rig.ask(x, 1, pid);
            CHECK.same("PID " + pid + ": bytes", x.about(43), size == 0 ? 7 : 4 + 2 + size);
            CHECK.same("PID " + pid, got.startsWith(size == 0 ? "7F 01 12" : String.format("41 %02X ", pid)) ? 1 : 0, 1);
        }
        EngineControl x = inSession();
        long bits = 0;
        for (int i = 1; i < there.length; i++) {
            bits |= 1L << 32 - there[i];
        }
        CHECK.same("PID 00", Rig.ask(x, 1, 0), String.format("41 00 %02X %02X %02X %02X", bits >> 24, bits >> 16 & 255,
            bits >> 8 & 255, bits & 255));
        CHECK.same("PID 28", Rig.ask(x, 1, 28), "41 1C 06");
    }

    // "12h for another PID, or a third byte that is not 0; then 22h if there is no FRAME"
    private static void pidsOfTheFrame() {
        for (int pid = 0; pid < 256; pid++) {
            boolean there = pid == 2 || pid == 4 || pid == 5 || pid == 6 || pid == 7 || pid == 11 || pid == 12 || pid == 17;
            EngineControl none = inSession();
            CHECK.same("no FRAME, PID " + pid, Rig.ask(none, 2, pid, 0), there ? "7F 02 22" : "7F 02 12");
            CHECK.same("third byte, PID " + pid, Rig.ask(none, 2, pid, 1), "7F 02 12");
        }
        EngineControl x = new EngineControl();
        Rig.store(x, 0, 1, 29, 28, 30, 20000, 31, 51, 32, -41, 33, 1001, 34, -250, 35, 100, 36, 5);
        x.key(true);
        Rig.ask(x, 0x81);
        CHECK.same("its CODE", Rig.ask(x, 2, 2, 0), "42 02 00 03 08");
        CHECK.same("PRESSURE 51", Rig.ask(x, 2, 4, 0), "42 04 00 82");
        CHECK.same("COOLANT -41", Rig.ask(x, 2, 5, 0), "42 05 00 00");
        CHECK.same("SHORT -250", Rig.ask(x, 2, 6, 0), "42 06 00 60");
        CHECK.same("LONG 100", Rig.ask(x, 2, 7, 0), "42 07 00 8C");
        CHECK.same("PRESSURE", Rig.ask(x, 2, 11, 0), "42 0B 00 33");
        CHECK.same("SPEED 20000", Rig.ask(x, 2, 12, 0), "42 0C 00 FF FF");
        CHECK.same("PLATE 1001", Rig.ask(x, 2, 17, 0), "42 11 00 FF");
        CHECK.same("third byte 255", Rig.ask(x, 2, 17, 255), "7F 02 12");
        CHECK.same("PID 1", Rig.ask(x, 2, 1, 0), "7F 02 12");
    }

    private static void told(int line, int value, int pid, String due) {
        EngineControl x = new EngineControl();
        x.line(line, -10000, value, 30000, value);
        if (line == 2) {
            x.line(3, -10000, value, 30000, value);
        }
        x.key(true);
        Rig.ask(x, 0x81);
        CHECK.same("PID " + pid + " by " + value, Rig.ask(x, 1, pid), String.format("41 %02X %s", pid, due));
    }

    // "(Reckoned as longs, / cuts off; each is cut to 0 .. 255, or 65535.)"
    private static void pidEnds() {
        int[][] pressure = {{-10000, 0, 0}, {-1, 0, 0}, {0, 0, 0}, {1, 2, 1}, {99, 252, 99}, {100, 255, 100}, {101, 255, 101},
            {255, 255, 255}, {256, 255, 255}, {30000, 255, 255}};
        for (int[] one : pressure) {
            told(4, one[0], 4, String.format("%02X", one[1]));
            told(4, one[0], 11, String.format("%02X", one[2]));
        }
        int[][] degrees = {{-10000, 0}, {-41, 0}, {-40, 0}, {-39, 1}, {215, 255}, {216, 255}, {214, 254}, {30000, 255}};
        for (int[] one : degrees) {
            told(5, one[0], 5, String.format("%02X", one[1]));
            told(6, one[0], 15, String.format("%02X", one[1]));
        }
        int[][] plate = {{-10000, 0}, {-1, 0}, {0, 0}, {3, 0}, {4, 1}, {999, 254}, {1000, 255}, {1001, 255}, {1004, 255},
            {30000, 255}};
        for (int[] one : plate) {
            told(2, one[0], 17, String.format("%02X", one[1]));
        }
        int[][] lambda = {{-10000, 0}, {-5, 0}, {-4, 0}, {4, 0}, {5, 1}, {1274, 254}, {1275, 255}, {1279, 255}, {1280, 255},
            {30000, 255}};
        for (int[] one : lambda) {
            told(7, one[0], 20, String.format("%02X FF", one[1]));
        }
        int[][] trims = {{-100, 0x73}, {-1, 0x7F}, {0, 0x80}, {7, 0x80}, {8, 0x81}, {-7, 0x7F}, {-8, 0x7E}, {100, 0x8C}};
        for (int[] one : trims) {
            EngineControl x = new EngineControl();
            Rig.store(x, 0, 1, 39, one[0], 29, 1, 34, one[0], 35, one[0]);
            x.key(true);
            Rig.ask(x, 0x81);
            CHECK.same("PID 7 by " + one[0], Rig.ask(x, 1, 7), String.format("41 07 %02X", one[1]));
            CHECK.same("of the FRAME", Rig.ask(x, 2, 7, 0), String.format("42 07 00 %02X", one[1]));
            CHECK.same("SHORT of it", Rig.ask(x, 2, 6, 0), String.format("42 06 00 %02X", one[1]));
        }
        int[][] exact = {{125, 0x90}, {-125, 0x70}, {375, 0xB0}, {-1000, 0}, {-1001, 0}, {992, 0xFE}, {993, 0xFF}, {1000, 0xFF}};
        for (int[] one : exact) {
            EngineControl x = new EngineControl();
            Rig.store(x, 0, 1, 29, 1, 34, one[0], 35, one[0]);
            x.key(true);
            Rig.ask(x, 0x81);
            CHECK.same("PID 6 of the FRAME, " + one[0], Rig.ask(x, 2, 6, 0), String.format("42 06 00 %02X", one[1]));
            CHECK.same("PID 7 of the FRAME, " + one[0], Rig.ask(x, 2, 7, 0), String.format("42 07 00 %02X", one[1]));
        }
        int[][] speeds = {{-5, 0}, {16383, 65532}, {16384, 65535}, {0, 0}, {1, 4}, {Integer.MAX_VALUE, 65535},
            {Integer.MIN_VALUE, 0}};
        for (int[] one : speeds) {
            EngineControl x = new EngineControl();
            Rig.store(x, 0, 1, 29, 1, 30, one[0], 31, one[0], 34, one[0]);
            x.key(true);
            Rig.ask(x, 0x81);
            CHECK.same("PID 12 of the FRAME, " + one[0], Rig.ask(x, 2, 12, 0),
                String.format("42 0C 00 %02X %02X", one[1] >> 8, one[1] & 255));
            String pressureDue = one[0] == 1 ? "02" : one[0] <= 0 ? "00" : "FF";
            CHECK.same("PID 4 of the FRAME, " + one[0], Rig.ask(x, 2, 4, 0), "42 04 00 " + pressureDue);
            String shortDue = one[0] > 10000 ? "FF" : one[0] < -10000 ? "00" : one[0] < 0 ? "7F" : "80";
            CHECK.same("PID 6 of the FRAME, " + one[0], Rig.ask(x, 2, 6, 0), "42 06 00 " + shortDue);
        }
    }

    // "0 below STATE 2, else 8 if LAMBDA FAILS, else 4 if CUTTING, else 2 if the latest LOOP was CLOSED, else 1; 0"
    private static void mixtureStates() {
        EngineControl x = new EngineControl();
        x.line(5, -10000, 90, 30000, 90);
        x.limits(7, 100, 900, 1023);
        x.calibrate(2, 2000000);
        x.key(true);
        Rig.ask(x, 0x81);
        CHECK.same("LOST", Rig.ask(x, 1, 3), "41 03 00 00");
        x.turn(58, 1000);
        CHECK.same("SEEKING", Rig.ask(x, 1, 3), "41 03 00 00");
        x.turn(2, 1000);
        x.turn(60, 1000);
        CHECK.same("HALF", x.about(2), EngineControl.HALF);
        CHECK.same("HALF", Rig.ask(x, 1, 3), "41 03 01 00");
        EngineControl y = new EngineControl();
        y.line(5, -10000, 90, 30000, 90);
        y.limits(7, 100, 900, 1023);
        y.calibrate(2, 2000000);
        y.calibrate(5, 1000);
        y.key(true);
        Rig.ask(y, 0x81);
        y.turn(140, 1001);
        CHECK.same("CLOSED", Rig.ask(y, 1, 3), "41 03 02 00");
        EngineControl z = new EngineControl();
        z.line(5, -10000, 90, 30000, 90);
        z.limits(7, 100, 900, 1023);
        z.calibrate(2, 2000000);
        z.calibrate(5, 1000);
        z.key(true);
        Rig.ask(z, 0x81);
        z.turn(140, 1000);
        CHECK.same("CUTTING", Rig.ask(z, 1, 3), "41 03 04 00");
        z.pin(7, 99);
        Rig.loops(z, 10);
        CHECK.same("LAMBDA FAILS", Rig.ask(z, 1, 3), "41 03 08 00");
    }

    // "14: 128 + FLOOR(ADVANCE / 5) of the latest PLAN of cylinder 0 (ADVANCE 0 before)"
    private static void advanceOfThePlan() {
        int[][] all = {{-100, 108}, {-99, 108}, {-96, 108}, {-95, 109}, {-1, 127}, {0, 128}, {4, 128}, {5, 129}, {450, 218}};
        for (int[] one : all) {
            EngineControl x = new EngineControl();
            x.calibrate(0, 1);
            x.calibrate(2, 2000000);
            Rig.everyCell(x, 1, one[0]);
            x.key(true);
            Rig.ask(x, 0x81);
            CHECK.same("before", Rig.ask(x, 1, 14), "41 0E 80");
            x.turn(240, 1000);
            CHECK.same("ADVANCE", x.cylinder(0, 6), one[0]);
            CHECK.same("ADVANCE " + one[0], Rig.ask(x, 1, 14), String.format("41 0E %02X", one[1]));
        }
    }

    // "31: LOOPS / 100 (two bytes)"
    private static void loopsByHundred() {
        EngineControl x = Rig.on();
        Rig.ask(x, 0x81);
        CHECK.same("LOOPS", x.about(11), 3);
        Rig.loops(x, 93);
        CHECK.same("99 at the answer", Rig.ask(x, 1, 31) + " " + x.about(11), "41 1F 00 00 99");
        EngineControl y = Rig.on();
        Rig.ask(y, 0x81);
        Rig.loops(y, 94);
        CHECK.same("100 at the answer", Rig.ask(y, 1, 31) + " " + y.about(11), "41 1F 00 01 100");
        EngineControl z = Rig.on();
        for (int i = 0; i < 10; i++) {
            z.turn(240, 100000);
        }
        Rig.loops(z, 1592);
        Rig.ask(z, 0x81);
        CHECK.same("LOOPS", z.about(11), 25595);
        CHECK.same("255", Rig.ask(z, 1, 31), "41 1F 00 FF");
        CHECK.same("256", Rig.ask(z, 1, 31), "41 1F 01 00");
    }

    // "01: 128 if the LAMP is on and how many are CONFIRMED, 0, 0, 0"
    private static void lampAndCount() {
        EngineControl x = new EngineControl();
        int[] words = new int[56];
        for (int k = 0; k < 28; k++) {
            words[2 * k] = 1 + k;
            words[2 * k + 1] = 2 + 4 * 3;
        }
        Rig.store(x, 0, 1, words);
        x.key(true);
        Rig.ask(x, 0x81);
        CHECK.same("28 without the LAMP", Rig.ask(x, 1, 1), "41 01 1C 00 00 00");
        x.cut(0);
        words[1] = 2 + 4 * 2;
        Rig.store(x, 0, 1, words);
        x.key(true);
        Rig.ask(x, 0x81);
        CHECK.same("28 with the LAMP", Rig.ask(x, 1, 1), "41 01 9C 00 00 00");
        EngineControl y = new EngineControl();
        Rig.build(y, "c=1");
        y.key(true);
        Rig.ask(y, 0x81);
        CHECK.same("the LAMP by the RULES", Rig.ask(y, 1, 1), "41 01 80 00 00 00");
    }

    // "43h and the CODES of all that are CONFIRMED; 47h and those of all PENDING ones", 256 + 16 k, 769 + k - 20
    private static void codesNoneAndAll() {
        EngineControl none = inSession();
        CHECK.same("none CONFIRMED", Rig.ask(none, 3), "43");
        CHECK.same("none PENDING", Rig.ask(none, 7), "47");
        for (int bit = 1; bit <= 2; bit++) {
            EngineControl x = new EngineControl();
            int[] words = new int[56];
            StringBuilder codes = new StringBuilder();
            for (int k = 0; k < 28; k++) {
                words[2 * k] = 1 + k;
                words[2 * k + 1] = bit;
                int code = k >= 20 ? 769 + k - 20 : 256 + 16 * k;
                codes.append(String.format(" %02X %02X", code >> 8, code & 255));
            }
            Rig.store(x, 0, 1, words);
            x.key(true);
            Rig.ask(x, 0x81);
            CHECK.same("CONFIRMED", Rig.ask(x, 3), bit == 2 ? "43" + codes : "43");
            CHECK.same("PENDING", Rig.ask(x, 7), bit == 1 ? "47" + codes : "47");
        }
        for (int k : new int[] {0, 19, 20, 27}) {
            EngineControl x = new EngineControl();
            Rig.store(x, 0, 1, 1 + k, 2);
            x.key(true);
            Rig.ask(x, 0x81);
            int code = k >= 20 ? 769 + k - 20 : 256 + 16 * k;
            CHECK.same("trouble " + k, Rig.ask(x, 3), String.format("43 %02X %02X", code >> 8, code & 255));
        }
    }

    // "04h (1): 22h if SPEED is above 0; else all trouble, the FRAME, LONG, SHORT are as at first (OLD, too)"
    private static void clearNeedsStandstill() {
        EngineControl x = new EngineControl();
        Rig.store(x, 0, 4, 1, 3 + 4 * 2, 28, 1, 29, 1, 39, 50, 53, 6);
        x.calibrate(2, 2000000);
        x.pin(6, 0);
        x.key(true);
        Rig.ask(x, 0x81);
        x.turn(60, 1000);
        CHECK.same("SPEED", x.about(6), 1000);
        CHECK.same("SPEED above 0", Rig.ask(x, 4), "7F 04 22");
        CHECK.same("nothing is WRITTEN", x.about(48), 0);
        CHECK.same("the FRAME is there", x.frame(0), 0);
        CHECK.same("CONFIRMED", x.trouble(0, 3), 1);
        x.tooth(1);
        CHECK.same("SEEKING", x.about(2), EngineControl.SEEKING);
        CHECK.same("SPEED 0 is enough", Rig.ask(x, 4), "44");
        CHECK.same("WRITTEN", x.about(48), 56);
        CHECK.same("HEAD", x.about(49), 5);
        CHECK.same("no FRAME", x.frame(0), EngineControl.NONE);
        CHECK.same("LONG", x.about(34), 0);
        CHECK.same("CYCLES stay", x.about(39), 6);
        for (int k = 0; k < 28; k++) {
            int marks = 0;
            for (int what = 0; what < 7; what++) {
                marks += Math.abs(x.trouble(k, what));
            }
            CHECK.same("trouble " + k, marks, 0);
        }
        // AIR, which was no OLD one, is FAULTY again; trouble 0 was OLD and is so no more.
        x.pin(0, 0);
        Rig.loops(x, 20);
        CHECK.same("FAULTY", x.trouble(0, 1), 1);
        CHECK.same("not CONFIRMED: OLD is gone", x.trouble(0, 3), 0);
        CHECK.same("PENDING", x.trouble(0, 2), 1);
    }

    // "22h if SPEED is above 0": the least SPEED there is
    private static void clearAtTheLeastSpeed() {
        EngineControl x = new EngineControl();
        x.calibrate(2, 2000000);
        x.key(true);
        Rig.ask(x, 0x81);
        x.tooth(1);
        x.tooth(500000);
        x.pass(990000);
        CHECK.same("HALF", x.tooth(1000000), EngineControl.HALF);
        CHECK.same("SPEED", x.about(6), 1);
        CHECK.same("04h", Rig.ask(x, 4), "7F 04 22");
    }

    // "09h type (2): 49h type and: 00: 44h 0 0 0. 02: .. 06: four bytes"
    private static void types() {
        for (int type = 0; type < 256; type++) {
            EngineControl x = inSession();
            String got = Rig.ask(x, 9, type);
            boolean there = type == 0 || type == 2 || type == 6;
            CHECK.same("type " + type, got.equals("7F 09 12") ? 1 : 0, there ? 0 : 1);
        }
        EngineControl x = inSession();
        CHECK.same("00", Rig.ask(x, 9, 0), "49 00 44 00 00 00");
        CHECK.same("02", Rig.ask(x, 9, 2), "49 02 01 54 31 36 45 4E 47 49 4E 45 30 30 30 30 30 30 30 31");
        long sum = 0;
        EngineControl most = new EngineControl();
        int[] greatest = {8, 7199, 2000000, 1400, 20000, 9000, 9000, 9000, 140, 2000, 1000, 50, 50, 120, 140, 140, 50, 50,
            1000, 200, 100, 1023, 100, 1000};
        for (int k = 0; k < 24; k++) {
            most.calibrate(k, greatest[k]);
            sum += (k + 1L) * greatest[k];
        }
        most.key(true);
        Rig.ask(most, 0x81);
        CHECK.same("06 of the greatest", Rig.ask(most, 9, 6),
            String.format("49 06 %02X %02X %02X %02X", sum >> 24, sum >> 16 & 255, sum >> 8 & 255, sum & 255));
    }

    // "21h k (2): 61h k and NUMBER k, three bytes, the highest first; 31h: no such NUMBER"
    private static void numbersThere() {
        EngineControl x = new EngineControl();
        x.calibrate(2, 2000000);
        x.calibrate(0, 1);
        x.calibrate(23, 1000);
        x.key(true);
        Rig.ask(x, 0x81);
        CHECK.same("NUMBER 0", Rig.ask(x, 0x21, 0), "61 00 00 00 01");
        CHECK.same("NUMBER 2", Rig.ask(x, 0x21, 2), "61 02 1E 84 80");
        CHECK.same("NUMBER 23", Rig.ask(x, 0x21, 23), "61 17 00 03 E8");
        CHECK.same("NUMBER 24", Rig.ask(x, 0x21, 24), "7F 21 31");
        CHECK.same("NUMBER 255", Rig.ask(x, 0x21, 255), "7F 21 31");
    }

    private static int seed(EngineControl x) {
        String got = Rig.ask(x, 0x27, 1);
        long due = (7919 * x.about(11) + 13) % 65536;
        CHECK.same("SEED", got, String.format("67 01 %02X %02X", due >> 8, due & 255));
        return (int) due;
    }

    private static String key(EngineControl x, int key) {
        return Rig.ask(x, 0x27, 2, key >> 8 & 255, key & 255);
    }

    // "24h without a SEED since BOOT or the latest KEY; 35h if they are not (3 SEED + 4660) modulo 65536"
    private static void seedsAndKeys() {
        EngineControl x = inSession();
        CHECK.same("no SEED", key(x, 0), "7F 27 24");
        for (int off = -1; off <= 1; off++) {
            EngineControl y = inSession();
            int seed = seed(y);
            CHECK.same("KEY off by " + off, key(y, 3 * seed + 4660 + off), off == 0 ? "67 02" : "7F 27 35");
            CHECK.same("OPEN", y.about(41), off == 0 ? 1 : 0);
            CHECK.same("the SEED is gone", key(y, 3 * seed + 4660), "7F 27 24");
            CHECK.same("OPEN stays", y.about(41), off == 0 ? 1 : 0);
        }
        // SEEDS and KEYS that wrap.
        EngineControl wraps = inSession();
        for (int i = 0; i < 12; i++) {
            int seed = seed(wraps);
            CHECK.same("right", key(wraps, 3 * seed + 4660), "67 02");
        }
        // A SEED outlives the SESSION, but not the BOOT.
        EngineControl z = inSession();
        int seed = seed(z);
        Rig.ask(z, 0x82);
        Rig.ask(z, 0x81);
        CHECK.same("right", key(z, 3 * seed + 4660), "67 02");
        seed = seed(z);
        z.cut(0);
        z.key(true);
        Rig.ask(z, 0x81);
        CHECK.same("no SEED since BOOT", key(z, 3 * seed + 4660), "7F 27 24");
    }

    // "36h if 3 KEYS were wrong since BOOT"
    private static void threeWrongKeys() {
        EngineControl x = inSession();
        for (int i = 0; i < 5; i++) {
            CHECK.same("without a SEED no KEY is wrong", key(x, 1), "7F 27 24");
        }
        int seed = seed(x);
        CHECK.same("wrong 1", key(x, 3 * seed), "7F 27 35");
        seed = seed(x);
        CHECK.same("wrong 2", key(x, 3 * seed), "7F 27 35");
        seed = seed(x);
        CHECK.same("right yet", key(x, 3 * seed + 4660), "67 02");
        CHECK.same("OPEN", x.about(41), 1);
        seed = seed(x);
        CHECK.same("wrong 3", key(x, 3 * seed), "7F 27 35");
        CHECK.same("36h before 24h", key(x, 3 * seed), "7F 27 36");
        seed = seed(x);
        CHECK.same("36h, though it is right", key(x, 3 * seed + 4660), "7F 27 36");
        CHECK.same("OPEN stays", x.about(41), 1);
        Rig.ask(x, 0x82);
        Rig.ask(x, 0x81);
        seed = seed(x);
        CHECK.same("in another SESSION, too", key(x, 3 * seed + 4660), "7F 27 36");
        CHECK.same("12h before 36h", Rig.ask(x, 0x27, 2, 0), "7F 27 12");
        x.cut(0);
        x.key(true);
        Rig.ask(x, 0x81);
        seed = seed(x);
        CHECK.same("not since BOOT: wrong 1", key(x, 3 * seed), "7F 27 35");
        seed = seed(x);
        CHECK.same("wrong 2", key(x, 3 * seed), "7F 27 35");
        seed = seed(x);
        CHECK.same("right", key(x, 3 * seed + 4660), "67 02");
        seed = seed(x);
        CHECK.same("wrong 3", key(x, 3 * seed), "7F 27 35");
        seed = seed(x);
        CHECK.same("36h", key(x, 3 * seed + 4660), "7F 27 36");
    }

    // "33h: it is not OPEN; 22h: STATE is not 0; 31h: no such NUMBER, or it is not from its least to its greatest"
    private static void calibrationOrder() {
        EngineControl x = inSession();
        x.tooth(5);
        CHECK.same("33h first", Rig.ask(x, 0x3B, 99, 0, 0, 0), "7F 3B 33");
        EngineControl y = Rig.on();
        Rig.open(y);
        y.tooth(5);
        CHECK.same("22h then, by STATE 1", Rig.ask(y, 0x3B, 99, 0, 0, 0), "7F 3B 22");
        CHECK.same("22h, though all is right", Rig.ask(y, 0x3B, 0, 0, 0, 5), "7F 3B 22");
        CHECK.same("NUMBER 0", Rig.ask(y, 0x21, 0), "61 00 00 00 04");
        EngineControl z = Rig.on();
        Rig.open(z);
        CHECK.same("31h: NUMBER 24", Rig.ask(z, 0x3B, 24, 0, 0, 5), "7F 3B 31");
        CHECK.same("31h: NUMBER 255", Rig.ask(z, 0x3B, 255, 0, 0, 5), "7F 3B 31");
        CHECK.same("right", Rig.ask(z, 0x3B, 0, 0, 0, 5), "7B 00");
        CHECK.same("five cylinders", z.cylinder(4, 0), 600 + 5760);
        z.cut(0);
        CHECK.same("it stays", z.calibrate(0, 4), 5);
    }

    private static void calibrationEnds() {
        int[][] all = {{1, 8}, {0, 7199}, {100000, 2000000}, {0, 1400}, {1000, 20000}, {1000, 9000}, {1000, 9000},
            {1000, 9000}, {60, 140}, {400, 2000}, {1, 1000}, {0, 50}, {1, 50}, {0, 120}, {50, 140}, {50, 140}, {0, 50},
            {0, 50}, {10, 1000}, {1, 200}, {1, 100}, {0, 1023}, {0, 100}, {0, 1000}};
        for (int k = 0; k < 24; k++) {
            EngineControl x = Rig.on();
            Rig.open(x);
            int[] values = {all[k][0] - 1, all[k][0], all[k][1], all[k][1] + 1};
            for (int i = 0; i < 4; i++) {
                int v = values[i] & 0xFFFFFF;
                boolean in = i == 1 || i == 2;
                CHECK.same("NUMBER " + k + " " + values[i], Rig.ask(x, 0x3B, k, v >> 16, v >> 8 & 255, v & 255),
                    in ? String.format("7B %02X", k) : "7F 3B 31");
                int now = i == 0 ? -1 : i == 1 ? all[k][0] : all[k][1];
                if (now >= 0) {
                    CHECK.same("it is", Rig.ask(x, 0x21, k),
                        String.format("61 %02X %02X %02X %02X", k, now >> 16, now >> 8 & 255, now & 255));
                }
            }
        }
    }

    // "(When a SESSION ends, also by 13. of the LOOP, it is not OPEN any more.)", "a SESSION begins, it is not OPEN"
    private static void sessionEndsOpen() {
        EngineControl x = Rig.on();
        Rig.open(x);
        CHECK.same("OPEN", x.about(41), 1);
        CHECK.same("82h", Rig.ask(x, 0x82), "C2");
        CHECK.same("SESSION and OPEN", x.about(40) + x.about(41), 0);
        Rig.open(x);
        CHECK.same("OPEN", x.about(41), 1);
        CHECK.same("81h again", Rig.ask(x, 0x81), "C1 EA 8F");
        CHECK.same("not OPEN", x.about(41), 0);
        CHECK.same("SESSION", x.about(40), 1);
        Rig.open(x);
        Rig.loops(x, 499);
        CHECK.same("OPEN", x.about(41), 1);
        Rig.loops(x, 1);
        CHECK.same("by 13.", x.about(40) + x.about(41), 0);
    }

    // "(OUT has room for 600 bytes; what does not fit whole is lost)"
    private static void roomForSixHundred() {
        EngineControl x = inSession();
        // 24 bytes each.
        for (int i = 0; i < 24; i++) {
            x.ask(2, 9, 2, 0, 0, 0);
        }
        CHECK.same("576", x.about(43), 576);
        CHECK.same("7 more", x.ask(1, 0x99, 0, 0, 0, 0), 583);
        CHECK.same("7 more", x.ask(1, 0x99, 0, 0, 0, 0), 590);
        CHECK.same("5 more", x.ask(1, 0x3E, 0, 0, 0, 0), 595);
        CHECK.same("7 do not fit", x.ask(1, 0x99, 0, 0, 0, 0), 595);
        CHECK.noSuch("nothing of it is there", () -> x.byteOf(595));
        CHECK.same("5 fit to the end", x.ask(1, 0x3E, 0, 0, 0, 0), 600);
        CHECK.same("the last byte", x.byteOf(599), 129 + 241 + 17 + 0x7E & 255);
        CHECK.noSuch("600", () -> x.byteOf(600));
        CHECK.same("full", x.ask(1, 0x3E, 0, 0, 0, 0), 600);
        // What is lost is handled all the same.
        CHECK.same("82h", x.ask(1, 0x82, 0, 0, 0, 0), 600);
        CHECK.same("the SESSION ended", x.about(40), 0);
        CHECK.same("drain", x.drain(), 600);
        CHECK.same("empty", x.about(43), 0);
        EngineControl y = inSession();
        for (int i = 0; i < 24; i++) {
            y.ask(2, 9, 2, 0, 0, 0);
        }
        for (int i = 0; i < 4; i++) {
            y.ask(1, 0x3E, 0, 0, 0, 0);
        }
        CHECK.same("596", y.about(43), 596);
        CHECK.same("5 are one too many", y.ask(1, 0x3E, 0, 0, 0, 0), 596);
    }
}
