/** Promises 37 frameComes, 38 sent, 39 noise, 40 lock. */
public final class BusTest {
    private static final Check CHECK = new Check();

    public static void main(String[] args) {
        wrongInputs();
        motion();
        state();
        allowed();
        silence();
        muting();
        locking();
        deafness();
        challenges();
        CHECK.end();
    }

    private static EngineControl on() {
        EngineControl x = new EngineControl();
        x.key(true);
        return x;
    }

    private static int check(int high, int low) {
        int sum = 0xA5;
        for (int i = 0; i < 4; i++) {
            sum ^= high >>> 8 * i & 255;
            sum ^= i > 0 ? low >>> 8 * i & 255 : 0;
        }
        return sum;
    }

    private static boolean allow(EngineControl x, int percentage, int count) {
        int high = percentage << 24 | 0x123456;
        int low = 0x77880000 | count << 8;
        return x.frameComes(336, high, low | check(high, low));
    }

    private static void wrongInputs() {
        EngineControl x = new EngineControl();
        CHECK.badArgument("frameComes(-1, ..)", () -> x.frameComes(-1, 0, 0));
        CHECK.badArgument("frameComes(2048, ..)", () -> x.frameComes(2048, 0, 0));
        CHECK.no("not heard when OFF", allow(x, 50, 0));
        CHECK.same("no BADFRAMES when OFF", x.about(60), 0);
        CHECK.badArgument("noise(-1)", () -> x.noise(-1));
        CHECK.badArgument("noise(301)", () -> x.noise(301));
        CHECK.same("noise when OFF", x.noise(300), 0);
        CHECK.noSuch("sent(0, 0)", () -> x.sent(0, 0));
        x.key(true);
        x.pass(20000);
        CHECK.noSuch("sent(1, 0)", () -> x.sent(1, 0));
        CHECK.noSuch("sent(-1, 0)", () -> x.sent(-1, 0));
        CHECK.noSuch("sent(0, 3)", () -> x.sent(0, 3));
        CHECK.noSuch("sent(0, -1)", () -> x.sent(0, -1));
        CHECK.no("others do nothing", x.frameComes(0, 0, 0));
        CHECK.no("others do nothing", x.frameComes(2047, 0, 0));
        CHECK.no("1281 while not BARRED", x.frameComes(1281, 0, 0));
        CHECK.same("no BADFRAMES by them", x.about(60), 0);
    }

    private static void motion() {
        EngineControl x = on();
        x.brake(0, true);
        x.car(0, 12345);
        x.pass(10000);
        CHECK.same("none in LOOP 1", x.about(63), 0);
        x.pass(10000);
        CHECK.same("one in LOOP 2", x.about(63), 1);
        CHECK.same("513", x.sent(0, 0), 513);
        // SPEED 0, PLATE 500 / 4, PEDAL 500 / 4; BRAKING, 12345 / 200, COUNT 0
        CHECK.same("first bytes", x.sent(0, 1), 125 << 8 | 125);
        int low = 8 << 24 | 61 << 16;
        CHECK.same("last bytes", x.sent(0, 2), low | check(125 << 8 | 125, low));
        x.pass(320000);
        int i = (int) x.about(63) - 1;
        CHECK.same("COUNT is modulo 16", x.sent(i, 2) >>> 8 & 255, 0);
        x.turn(200, 1000);
        i = (int) Math.min(64, x.about(63)) - 1;
        CHECK.same("SPEED * 4", x.sent(i, 1) >>> 16, 4000);
        for (int n = 0; n < 2; n++) {
            x.pass(2000000);
        }
        CHECK.yes("more than 64", x.about(63) > 64);
        CHECK.noSuch("64 are kept", () -> x.sent(64, 0));
        CHECK.yes("the latest is the last", x.sent(63, 0) == 1056 || x.sent(63, 0) == 513);
        x.cut(0);
        CHECK.noSuch("none when it is OFF", () -> x.sent(0, 0));
    }

    private static void state() {
        EngineControl x = on();
        x.pin(5, 57);
        x.car(0, 30000);
        x.pass(100000);
        int i = (int) x.about(63) - 1;
        CHECK.same("513 first", x.sent(i - 1, 0), 513);
        CHECK.same("1056 in LOOP 10", x.sent(i, 0), 1056);
        // COOLANT 129, USED 0, METRES 8; FANS 3, COUNT 0
        CHECK.same("COOLANT", x.about(52), 8);
        CHECK.same("first bytes", x.sent(i, 1), 169 << 24);
        int low = 8 << 24 | 3 << 16;
        CHECK.same("last bytes", x.sent(i, 2), low | check(169 << 24, low));
        x.pass(100000);
        i = (int) x.about(63) - 1;
        CHECK.same("a COUNT of its own", x.sent(i, 2) >>> 8 & 255, 1);
        for (char c : "c=1".toCharArray()) {
            x.unit(c);
        }
        x.build();
        x.turn(240, 1000);
        x.turn(240, 1000);
        for (int k = 0; k < 10 && x.sent((int) x.about(63) - 1, 0) != 1056; k++) {
            x.pass(10000);
        }
        i = (int) x.about(63) - 1;
        CHECK.same("USED / 1000", x.sent(i, 1) >>> 8 & 65535, x.about(64) / 1000);
        CHECK.yes("USED", x.about(64) > 1000);
        CHECK.same("the LAMP", x.sent(i, 2) >>> 16 & 255, 131);
    }

    private static void allowed() {
        EngineControl x = on();
        CHECK.yes("any COUNT at first", allow(x, 50, 7));
        CHECK.same("ALLOWED", x.about(58), 500);
        CHECK.same("SINCE", x.about(59), 0);
        CHECK.no("the same COUNT", allow(x, 40, 7));
        CHECK.same("BADFRAMES", x.about(60), 1);
        CHECK.same("ALLOWED stays", x.about(58), 500);
        CHECK.no("two more", allow(x, 40, 9));
        CHECK.yes("one more", allow(x, 0, 8));
        CHECK.same("ALLOWED 0", x.about(58), 0);
        CHECK.yes("100 percent", allow(x, 100, 9));
        CHECK.no("101 percent", allow(x, 101, 10));
        CHECK.no("a wrong CHECK", x.frameComes(336, 0, 10 << 8));
        for (int count = 10; count < 16; count++) {
            CHECK.yes("one more", allow(x, 30, count));
        }
        CHECK.no("COUNT 16", allow(x, 30, 16));
        CHECK.yes("modulo 16", allow(x, 30, 0));
        CHECK.same("BADFRAMES", x.about(60), 5);
        x.pass(10000);
        CHECK.same("TARGET", x.about(24), 300);
    }

    private static void silence() {
        EngineControl x = on();
        allow(x, 30, 0);
        x.pass(190000);
        CHECK.same("SINCE 19", x.about(59), 19);
        CHECK.same("ALLOWED", x.about(58), 300);
        CHECK.no("COUNT counts", allow(x, 20, 5));
        x.pass(10000);
        CHECK.same("SINCE 20", x.about(59), 20);
        CHECK.same("ALLOWED 1000", x.about(58), 1000);
        CHECK.yes("any COUNT", allow(x, 20, 5));
        x.key(false);
        CHECK.yes("in the AFTER-RUN, too", allow(x, 10, 6));
        x.cut(0);
        CHECK.same("as at first", x.about(58) + x.about(59), 1020);
    }

    private static void muting() {
        EngineControl x = on();
        CHECK.same("ERRORS", x.noise(255), 255);
        CHECK.same("not MUTE", x.about(62), 0);
        x.pass(10000);
        CHECK.same("1 less", x.about(61), 254);
        CHECK.same("ERRORS 256", x.noise(2), 256);
        CHECK.same("MUTE", x.about(62), 1);
        CHECK.same("no more while MUTE", x.noise(300), 256);
        CHECK.no("nothing is heard", allow(x, 50, 0));
        CHECK.same("no BADFRAMES", x.about(60), 0);
        x.pass(990000);
        CHECK.same("99 LOOPS", x.about(62), 1);
        CHECK.same("nothing is SENT", x.about(63), 0);
        CHECK.same("ERRORS stay", x.about(61), 256);
        x.pass(10000);
        CHECK.same("the 100th", x.about(62), 0);
        CHECK.same("ERRORS 0", x.about(61), 0);
        x.pass(10000);
        CHECK.yes("SENT again", x.about(63) > 0);
        CHECK.same("0 at least", x.about(61), 0);
    }

    private static int keyFor(EngineControl x, int code) {
        int key = ((int) x.about(66) ^ code) * -1640531535;
        return key ^ key >>> 15;
    }

    private static void locking() {
        EngineControl x = new EngineControl();
        CHECK.same("no CODE at first", x.lock(-77), 0);
        CHECK.same("the CODE", x.lock(4711), -77);
        x.key(true);
        CHECK.badState("lock while ON", () -> x.lock(0));
        CHECK.same("BARRED", x.about(65), 1);
        CHECK.same("CHALLENGE", x.about(66), 1103515245 + 12345);
        x.turn(240, 1000);
        x.turn(120, 1000);
        CHECK.same("FUEL 0", x.about(64), 0);
        CHECK.yes("but sparks", x.about(15) > 0);
        CHECK.no("a wrong one", x.frameComes(1281, keyFor(x, 4711) ^ 1, 0));
        CHECK.same("TRIES", x.about(67), 1);
        CHECK.yes("the right one", x.frameComes(1281, keyFor(x, 4711), 12345));
        CHECK.same("not BARRED", x.about(65) + x.about(66), 0);
        CHECK.no("not twice", x.frameComes(1281, keyFor(x, 4711), 0));
        x.turn(120, 1000);
        CHECK.yes("FUEL", x.about(64) > 0);
        x.key(false);
        CHECK.badState("lock in the AFTER-RUN", () -> x.lock(0));
        x.cut(0);
        x.key(true);
        CHECK.same("BARRED again", x.about(65), 1);
        CHECK.same("another CHALLENGE", x.about(66), 2 * 1103515245 + 12345);
        x.cut(0);
        CHECK.same("the CODE stays", x.lock(0), 4711);
        x.key(true);
        CHECK.same("no CODE", x.about(65), 0);
    }

    private static void deafness() {
        EngineControl x = new EngineControl();
        x.lock(1);
        x.key(true);
        for (int i = 1; i < 5; i++) {
            x.frameComes(1281, keyFor(x, 1) + 1, 0);
            CHECK.same("TRIES", x.about(67), i);
        }
        x.frameComes(1281, keyFor(x, 1) + 1, 0);
        CHECK.same("TRIES 0", x.about(67), 0);
        CHECK.same("DEAF", x.about(68), 1000);
        CHECK.no("DEAF", x.frameComes(1281, keyFor(x, 1), 0));
        CHECK.same("no TRIES while DEAF", x.about(67), 0);
        for (int i = 0; i < 4; i++) {
            x.pass(2000000);
        }
        x.pass(1990000);
        CHECK.same("one LOOP more", x.about(68), 1);
        CHECK.no("DEAF yet", x.frameComes(1281, keyFor(x, 1), 0));
        x.pass(10000);
        CHECK.yes("heard again", x.frameComes(1281, keyFor(x, 1), 0));
    }

    private static void challenges() {
        EngineControl x = new EngineControl();
        x.lock(1);
        x.key(true);
        x.pass(500000);
        int i = (int) x.about(63) - 1;
        CHECK.same("1280 in LOOP 50", x.sent(i, 0), 1280);
        CHECK.same("CHALLENGE", x.sent(i, 1), x.about(66));
        CHECK.same("CHECK", x.sent(i, 2), check((int) x.about(66), 0));
        x.frameComes(1281, keyFor(x, 1), 0);
        x.pass(500000);
        CHECK.same("none while not BARRED", x.sent((int) Math.min(64, x.about(63)) - 1, 0), 1056);
    }
}
