/** Promises 24 hear, 25 ask, 26 byteOf, 27 drain: the tester's line and its services. */
public final class TesterTest {
    private static final Check CHECK = new Check();

    public static void main(String[] args) {
        wrongInputs();
        bytes();
        asking();
        sessions();
        refusals();
        pids();
        frames();
        codes();
        clearing();
        names();
        numbers();
        keys();
        calibration();
        room();
        CHECK.end();
    }

    private static EngineControl on() {
        EngineControl x = new EngineControl();
        x.key(true);
        return x;
    }

    private static EngineControl inSession() {
        EngineControl x = on();
        x.ask(1, 0x81, 0, 0, 0, 0);
        x.drain();
        return x;
    }

    private static void ask(EngineControl x, int... data) {
        int[] all = new int[5];
        System.arraycopy(data, 0, all, 0, data.length);
        x.ask(data.length, all[0], all[1], all[2], all[3], all[4]);
    }

    /** What OUT has is one ANSWER with these DATA to the tester 241; OUT is empty then. */
    private static void answer(EngineControl x, String what, int... data) {
        CHECK.same(what + ": length", x.about(43), data.length + 4);
        if (x.about(43) == data.length + 4) {
            int sum = 128 + data.length + 241 + 17;
            CHECK.same(what + ": FMT", x.byteOf(0), 128 + data.length);
            CHECK.same(what + ": SRC", x.byteOf(1), 241);
            CHECK.same(what + ": 17", x.byteOf(2), 17);
            for (int i = 0; i < data.length; i++) {
                CHECK.same(what + ": DATA " + i, x.byteOf(3 + i), data[i]);
                sum += data[i];
            }
            CHECK.same(what + ": SUM", x.byteOf(3 + data.length), sum % 256);
        }
        x.drain();
    }

    private static void refused(EngineControl x, int r, int... data) {
        ask(x, data);
        answer(x, "REFUSAL of " + Integer.toHexString(data[0]), 0x7F, data[0], r);
    }

    private static void wrongInputs() {
        EngineControl x = new EngineControl();
        CHECK.badArgument("hear(0, -1)", () -> x.hear(0, -1));
        CHECK.badArgument("hear(0, 1000001)", () -> x.hear(0, 1000001));
        CHECK.badArgument("ask(0, ..)", () -> x.ask(0, 0x81, 0, 0, 0, 0));
        CHECK.badArgument("ask(6, ..)", () -> x.ask(6, 0x81, 0, 0, 0, 0));
        CHECK.noSuch("byteOf(0)", () -> x.byteOf(0));
        CHECK.noSuch("byteOf(-1)", () -> x.byteOf(-1));
        CHECK.same("drain", x.drain(), 0);
        CHECK.same("hear when OFF", x.hear(129, 5), 0);
        CHECK.same("ask when OFF", x.ask(1, 0x81, 0, 0, 0, 0), 0);
        CHECK.same("TIME", x.about(0), 5 + 34000);
        x.key(true);
        CHECK.same("nothing of it is left", x.about(40) + x.about(42), 0);
    }

    private static int[] hearAll(EngineControl x, int gap, int... bytes) {
        int size = 0;
        for (int b : bytes) {
            size = x.hear(b, gap);
        }
        return new int[] {size};
    }

    private static void bytes() {
        EngineControl x = on();
        int sum = (129 + 17 + 9 + 0x81) % 256;
        CHECK.same("a REQUEST", hearAll(x, 20000, 129, 17, 9, 0x81, sum)[0], 7);
        CHECK.same("128 + m", x.byteOf(0), 131);
        CHECK.same("SRC of the REQUEST", x.byteOf(1), 9);
        CHECK.same("SUM", x.byteOf(6), (131 + 9 + 17 + 0xC1 + 0xEA + 0x8F) % 256);
        CHECK.noSuch("behind the last", () -> x.byteOf(7));
        CHECK.same("drain", x.drain(), 7);
        CHECK.same("NOISE", x.about(42), 0);
        hearAll(x, 0, 129, 17, 9, 0x3E);
        CHECK.same("a pause drops it", x.hear((129 + 17 + 9 + 0x3E) % 256, 20001), 0);
        CHECK.same("what came begins anew", x.about(42), (129 + 17 + 9 + 0x3E) % 256 < 129 ? 1 : 0);
        x.pass(30000);
        CHECK.same("the lowest eight bits", hearAll(x, 0, 129 + 256, 17 - 256, 9, 0x3E, 129 + 17 + 9 + 0x3E)[0], 5);
        x.drain();
        long noise = x.about(42);
        hearAll(x, 0, 0, 127, 128, 192);
        CHECK.same("no FMT", x.about(42), noise + 4);
        hearAll(x, 0, 129, 17, 9, 0x3E, 0);
        CHECK.same("a wrong SUM", x.about(42), noise + 5);
        hearAll(x, 0, 129, 18, 9, 0x3E, (129 + 18 + 9 + 0x3E) % 256);
        hearAll(x, 0, 129, 51, 9, 0x3E, (129 + 51 + 9 + 0x3E) % 256);
        hearAll(x, 0, 193, 17, 9, 0x3E, (193 + 17 + 9 + 0x3E) % 256);
        CHECK.same("for another", x.about(43), 0);
        CHECK.same("is no NOISE", x.about(42), noise + 5);
        hearAll(x, 0, 193, 51, 9, 0x3E, (193 + 51 + 9 + 0x3E) % 256);
        CHECK.same("for all", x.about(43), 5);
        x.drain();
        int[] longest = new int[67];
        longest[0] = 191;
        longest[1] = 17;
        longest[2] = 1;
        longest[3] = 0x3E;
        longest[66] = (191 + 17 + 1 + 0x3E) % 256;
        CHECK.same("63 DATA", hearAll(x, 0, longest)[0], 7);
        CHECK.same("are not as told", x.byteOf(5), 0x12);
    }

    private static void asking() {
        EngineControl x = on();
        x.pass(1);
        CHECK.same("ask", x.ask(1, 0x181, 7, 7, 7, 7), 7);
        CHECK.same("TIME", x.about(0), 1 + 30000 + 4000);
        answer(x, "81h", 0xC1, 0xEA, 0x8F);
        x.hear(150, 0);
        CHECK.same("an earlier byte is dropped", x.ask(1, 0x3E, 0, 0, 0, 0), 5);
        answer(x, "3Eh", 0x7E);
        CHECK.same("five DATA", x.ask(5, 0x3E, 1, 2, 3, 4), 7);
        answer(x, "3Eh with n 5", 0x7F, 0x3E, 0x12);
    }

    private static void sessions() {
        EngineControl x = on();
        ask(x, 0x3E);
        CHECK.same("without a SESSION", x.about(43), 0);
        refused(x, 0x12, 0x81, 0);
        CHECK.same("no SESSION by it", x.about(40), 0);
        ask(x, 0x81);
        x.drain();
        CHECK.same("SESSION", x.about(40), 1);
        x.pass(2000000);
        x.pass(2000000);
        x.pass(900000);
        ask(x, 0x82);
        answer(x, "82h", 0xC2);
        CHECK.same("no SESSION", x.about(40), 0);
        ask(x, 0x81);
        long loops = x.about(11);
        x.pass(2000000);
        x.pass(2000000);
        x.pass((int) (10000 * (loops + 499 - x.about(11))));
        CHECK.same("SILENT 499", x.about(40), 1);
        x.pass(10000);
        CHECK.same("SILENT 500", x.about(40), 0);
    }

    private static void refusals() {
        EngineControl x = inSession();
        refused(x, 0x11, 0x99);
        refused(x, 0x11, 0x10, 1, 2, 3, 4);
        for (int service : new int[] {0x81, 0x82, 0x3E, 0x03, 0x07, 0x04}) {
            refused(x, 0x12, service, 0);
        }
        for (int service : new int[] {0x01, 0x09, 0x21, 0x34}) {
            refused(x, 0x12, service);
            refused(x, 0x12, service, 0, 0);
        }
        refused(x, 0x12, 0x02, 4);
        refused(x, 0x12, 0x37, 4);
        refused(x, 0x12, 0x36, 4, 0);
        refused(x, 0x12, 0x3B, 4, 0, 0);
        refused(x, 0x12, 0x27);
        refused(x, 0x12, 0x27, 2);
        refused(x, 0x12, 0x27, 3);
        refused(x, 0x12, 0x27, 1, 0, 0);
    }

    private static void pids() {
        EngineControl x = inSession();
        ask(x, 1, 0);
        answer(x, "PID 0", 0x41, 0, 0xBE, 0x36, 0x90, 0x12);
        ask(x, 1, 1);
        answer(x, "PID 1", 0x41, 1, 0, 0, 0, 0);
        ask(x, 1, 3);
        answer(x, "PID 3", 0x41, 3, 0, 0);
        ask(x, 1, 4);
        answer(x, "PID 4", 0x41, 4, 60 * 255 / 100);
        ask(x, 1, 5);
        answer(x, "PID 5", 0x41, 5, 89);
        ask(x, 1, 6);
        answer(x, "PID 6", 0x41, 6, 128);
        ask(x, 1, 7);
        answer(x, "PID 7", 0x41, 7, 128);
        ask(x, 1, 11);
        answer(x, "PID 11", 0x41, 11, 60);
        ask(x, 1, 14);
        answer(x, "PID 14", 0x41, 14, 128);
        ask(x, 1, 15);
        answer(x, "PID 15", 0x41, 15, 89);
        ask(x, 1, 17);
        answer(x, "PID 17", 0x41, 17, 500 * 255 / 1000);
        ask(x, 1, 20);
        answer(x, "PID 20", 0x41, 20, 110, 255);
        ask(x, 1, 28);
        answer(x, "PID 28", 0x41, 28, 6);
        x.turn(240, 1000);
        ask(x, 1, 12);
        answer(x, "PID 12", 0x41, 12, 4000 >> 8, 4000 & 255);
        ask(x, 1, 3);
        answer(x, "PID 3 in FULL", 0x41, 3, 1, 0);
        ask(x, 1, 14);
        answer(x, "PID 14 of a plan", 0x41, 14, 128 + x.cylinder(0, 6) / 5);
        ask(x, 1, 31);
        answer(x, "PID 31", 0x41, 31, 0, (int) x.about(11) / 100);
        for (int pid : new int[] {2, 8, 10, 13, 16, 32, 255}) {
            refused(x, 0x12, 1, pid);
        }
        cutPids();
    }

    /** PRESSURE 30000, COOLANT -100, AIR -100, LAMBDA 30000: each is cut to a byte. */
    private static void cutPids() {
        EngineControl x = new EngineControl();
        x.line(4, 0, 30000, 1, 30000);
        x.line(5, 0, -100, 1, -100);
        x.line(6, 0, -10000, 1, -10000);
        x.line(7, 0, 30000, 1, 30000);
        x.key(true);
        ask(x, 0x81);
        x.drain();
        ask(x, 1, 4);
        answer(x, "PID 4 cut", 0x41, 4, 255);
        ask(x, 1, 11);
        answer(x, "PID 11 cut", 0x41, 11, 255);
        ask(x, 1, 5);
        answer(x, "PID 5 cut", 0x41, 5, 0);
        ask(x, 1, 15);
        answer(x, "PID 15 cut", 0x41, 15, 0);
        ask(x, 1, 20);
        answer(x, "PID 20 cut", 0x41, 20, 255, 255);
        x.turn(240, 20);
        ask(x, 1, 12);
        answer(x, "PID 12 cut", 0x41, 12, 255, 255);
        ask(x, 1, 3);
        answer(x, "PID 3 CUTTING", 0x41, 3, 4, 0);
    }

    private static void frames() {
        EngineControl x = inSession();
        refused(x, 0x22, 2, 2, 0);
        refused(x, 0x12, 2, 2, 1);
        refused(x, 0x12, 2, 3, 0);
        refused(x, 0x12, 2, 1, 0);
        x.pin(6, 0);
        x.pass(200000);
        CHECK.same("a FRAME of AIR", x.frame(0), 6);
        ask(x, 2, 2, 0);
        answer(x, "FRAME's CODE", 0x42, 2, 0, 1, 0x60);
        ask(x, 2, 4, 0);
        answer(x, "FRAME's PRESSURE", 0x42, 4, 0, 153);
        ask(x, 2, 5, 0);
        answer(x, "FRAME's COOLANT", 0x42, 5, 0, 89);
        ask(x, 2, 6, 0);
        answer(x, "FRAME's SHORT", 0x42, 6, 0, 128);
        ask(x, 2, 7, 0);
        answer(x, "FRAME's LONG", 0x42, 7, 0, 128);
        ask(x, 2, 11, 0);
        answer(x, "FRAME's PRESSURE", 0x42, 11, 0, 60);
        ask(x, 2, 12, 0);
        answer(x, "FRAME's SPEED", 0x42, 12, 0, 0, 0);
        ask(x, 2, 17, 0);
        answer(x, "FRAME's PLATE", 0x42, 17, 0, 127);
        refused(x, 0x12, 2, 2, 1);
        refused(x, 0x12, 2, 14, 0);
    }

    private static void codes() {
        EngineControl x = new EngineControl();
        x.spoil(0, 0, 1);
        x.spoil(0, 1, 3);
        x.spoil(0, 28, 2);
        x.spoil(0, 20, 1);
        x.spoil(0, 54, 1 + 2 * 3 + 29 * 2 + 21);
        x.key(true);
        ask(x, 0x81);
        x.drain();
        ask(x, 3);
        answer(x, "CONFIRMED", 0x43, 1, 0, 3, 8);
        ask(x, 7);
        answer(x, "PENDING", 0x47, 1, 0, 2, 0x30);
        ask(x, 1, 1);
        answer(x, "PID 1 with the LAMP", 0x41, 1, 130, 0, 0, 0);
    }

    private static void clearing() {
        EngineControl x = new EngineControl();
        x.spoil(0, 0, 1);
        x.spoil(0, 1, 3);
        x.spoil(0, 37, 5);
        x.spoil(0, 53, 9);
        x.spoil(0, 54, 1 + 2 * 3 + 38 * 5 + 54 * 9);
        x.key(true);
        ask(x, 0x81);
        x.drain();
        x.turn(240, 1000);
        refused(x, 0x22, 4);
        x.pass(600000);
        x.pin(3, 0);
        x.pass(200000);
        CHECK.yes("a FRAME", x.frame(0) >= 0);
        ask(x, 4);
        answer(x, "04h", 0x44);
        CHECK.same("56 words", x.about(48), 56);
        CHECK.same("HEAD", x.about(49), 2);
        CHECK.same("no FRAME", x.frame(0), EngineControl.NONE);
        CHECK.same("not PENDING", x.trouble(0, 2) + x.trouble(0, 3) + x.trouble(3, 0) + x.trouble(3, 2), 0);
        CHECK.same("LONG", x.word(1, 37), 0);
        CHECK.same("CYCLES stay", x.about(39), 9);
        x.cut(30);
        ask(x, 4);
        CHECK.same("none if a CUT came", x.about(43), 0);
        CHECK.same("OFF", x.about(1), EngineControl.OFF);
        CHECK.same("30 words", x.about(48), 86);
        x.key(true);
        ask(x, 0x81);
        x.drain();
        x.cut(56);
        ask(x, 4);
        CHECK.same("a CUT behind the last word", x.about(43), 0);
        CHECK.same("it is whole", x.about(49), 3);
    }

    private static void names() {
        EngineControl x = inSession();
        ask(x, 9, 0);
        answer(x, "type 0", 0x49, 0, 0x44, 0, 0, 0);
        ask(x, 9, 2);
        String name = "T16ENGINE00000001";
        int[] data = new int[20];
        data[0] = 0x49;
        data[1] = 2;
        data[2] = 1;
        for (int i = 0; i < 17; i++) {
            data[3 + i] = name.charAt(i);
        }
        answer(x, "type 2", data);
        int[] numbers = {
            4, 600, 500000, 300, 8000, 6500, 3500, 2500, 115, 800, 20, 8, 2, 60, 98, 104, 4, 1, 150, 25, 10, 600, 20,
            20};
        int sum = 0;
        for (int k = 0; k < 24; k++) {
            sum += (k + 1) * numbers[k];
        }
        ask(x, 9, 6);
        answer(x, "type 6", 0x49, 6, sum >>> 24, sum >>> 16 & 255, sum >>> 8 & 255, sum & 255);
        refused(x, 0x12, 9, 1);
        refused(x, 0x12, 9, 4);
    }

    private static void numbers() {
        EngineControl x = inSession();
        ask(x, 0x21, 2);
        answer(x, "STALL", 0x61, 2, 7, 0xA1, 0x20);
        ask(x, 0x21, 23);
        answer(x, "REST", 0x61, 23, 0, 0, 20);
        refused(x, 0x31, 0x21, 24);
        refused(x, 0x31, 0x21, 255);
    }

    /** The SEED that OUT tells. */
    private static int seed(EngineControl x) {
        x.drain();
        ask(x, 0x27, 1);
        int seed = x.byteOf(5) * 256 + x.byteOf(6);
        CHECK.same("67h", x.byteOf(3), 0x67);
        CHECK.same("01h", x.byteOf(4), 1);
        CHECK.same("SEED", seed, (7919 * x.about(11) + 13) % 65536);
        x.drain();
        return seed;
    }

    private static void open(EngineControl x) {
        int key = (3 * seed(x) + 4660) % 65536;
        ask(x, 0x27, 2, key >> 8, key & 255);
        answer(x, "KEY", 0x67, 2);
    }

    private static void keys() {
        EngineControl x = inSession();
        refused(x, 0x24, 0x27, 2, 0, 0);
        open(x);
        CHECK.same("OPEN", x.about(41), 1);
        refused(x, 0x24, 0x27, 2, 0, 0);
        ask(x, 0x81);
        CHECK.same("a new SESSION is not OPEN", x.about(41), 0);
        x.pass(50000);
        open(x);
        ask(x, 0x82);
        CHECK.same("not OPEN behind the SESSION", x.about(41), 0);
        ask(x, 0x81);
        for (int i = 0; i < 3; i++) {
            int key = (3 * seed(x) + 4661) % 65536;
            refused(x, 0x35, 0x27, 2, key >> 8, key & 255);
            if (i < 2) {
                refused(x, 0x24, 0x27, 2, key >> 8, key & 255);
            }
        }
        int key = (3 * seed(x) + 4660) % 65536;
        refused(x, 0x36, 0x27, 2, key >> 8, key & 255);
        x.cut(0);
        x.key(true);
        ask(x, 0x81);
        open(x);
    }

    private static void calibration() {
        EngineControl x = inSession();
        refused(x, 0x33, 0x3B, 0, 0, 0, 6);
        open(x);
        ask(x, 0x3B, 0, 0, 0, 6);
        answer(x, "3Bh", 0x7B, 0);
        CHECK.same("six cylinders", x.cylinder(5, 0), 600 + 6000);
        refused(x, 0x31, 0x3B, 0, 0, 0, 9);
        refused(x, 0x31, 0x3B, 0, 0, 0, 0);
        refused(x, 0x31, 0x3B, 24, 0, 0, 1);
        ask(x, 0x3B, 2, 0x1E, 0x84, 0x80);
        answer(x, "2000000", 0x7B, 2);
        refused(x, 0x31, 0x3B, 2, 0x1E, 0x84, 0x81);
        x.tooth(1);
        refused(x, 0x22, 0x3B, 0, 0, 0, 4);
        x.cut(0);
        CHECK.same("NUMBERS stay", x.calibrate(0, 4), 6);
    }

    private static void room() {
        EngineControl x = inSession();
        for (int i = 0; i < 24; i++) {
            ask(x, 9, 2);
        }
        CHECK.same("24 of 24 bytes", x.about(43), 576);
        ask(x, 9, 2);
        CHECK.same("600 have room", x.about(43), 600);
        ask(x, 0x3E);
        CHECK.same("what does not fit is lost", x.about(43), 600);
        CHECK.same("the last byte", x.byteOf(599), x.byteOf(23));
        x.cut(0);
        CHECK.same("OUT stays", x.drain(), 600);
        CHECK.same("drain", x.drain(), 0);
    }
}
