/** Promises 10 pin, 11 limits, 29 channel. */
public final class PinsTest {
    private static final Check CHECK = new Check();

    public static void main(String[] args) {
        wrongInputs();
        values();
        counting();
        rates();
        substitutes();
        CHECK.end();
    }

    private static void wrongInputs() {
        EngineControl x = new EngineControl();
        CHECK.noSuch("pin(-1, 0)", () -> x.pin(-1, 0));
        CHECK.noSuch("pin(10, 0)", () -> x.pin(10, 0));
        CHECK.noSuch("pin: the channel is looked at first", () -> x.pin(10, -1));
        CHECK.badArgument("pin(0, -1)", () -> x.pin(0, -1));
        CHECK.badArgument("pin(0, 1024)", () -> x.pin(0, 1024));
        CHECK.same("pin", x.pin(9, 1023), 512);
        CHECK.same("pin", x.pin(9, 0), 1023);
        CHECK.noSuch("limits(10, ..)", () -> x.limits(10, 0, 1023, 5));
        CHECK.noSuch("limits(-1, ..)", () -> x.limits(-1, 5, 1, 5));
        CHECK.badArgument("low below 0", () -> x.limits(0, -1, 1023, 5));
        CHECK.badArgument("high above 1023", () -> x.limits(0, 0, 1024, 5));
        CHECK.badArgument("rate above 1023", () -> x.limits(0, 0, 1023, 1024));
        CHECK.badArgument("rate below 0", () -> x.limits(0, 0, 1023, -1));
        CHECK.badArgument("low above high", () -> x.limits(0, 6, 5, 5));
        x.limits(0, 5, 5, 0);
        CHECK.noSuch("channel(10, 0)", () -> x.channel(10, 0));
        CHECK.noSuch("channel(-1, 0)", () -> x.channel(-1, 0));
        CHECK.noSuch("channel(0, 4)", () -> x.channel(0, 4));
        CHECK.noSuch("channel(0, -1)", () -> x.channel(0, -1));
        x.key(true);
        CHECK.badState("limits while ON", () -> x.limits(0, 0, 1023, 5));
        CHECK.badArgument("limits: numbers are looked at first", () -> x.limits(0, 0, 1024, 5));
        CHECK.same("pin while ON", x.pin(9, 7), 0);
        x.cut(0);
        CHECK.same("RAW stays", x.channel(9, 0), 7);
    }

    private static void values() {
        EngineControl x = new EngineControl();
        int[] due = {500, 500, 500, 500, 60, 49, 49, 550, 100, 512};
        x.key(true);
        x.pass(10000);
        for (int c = 0; c < 10; c++) {
            CHECK.same("VALUE " + c + " at RAW 512", x.channel(c, 1), due[c]);
        }
        x.pin(5, 1000);
        CHECK.same("VALUE changes in the LOOP alone", x.channel(5, 1), 49);
        x.pass(10000);
        CHECK.same("FLOOR below 0", x.channel(5, 1), -36);
    }

    private static void counting() {
        EngineControl x = new EngineControl();
        x.key(true);
        x.pass(10000);
        x.pin(4, 19);
        x.pass(10000);
        CHECK.same("COUNTER", x.channel(4, 2), 10);
        CHECK.same("BAD: as before", x.channel(4, 1), 60);
        x.pin(4, 20);
        x.pass(10000);
        CHECK.same("LOW is not BAD", x.channel(4, 2), 9);
        CHECK.same("VALUE", x.channel(4, 1), 11);
        x.pin(4, 1003);
        x.pass(10000);
        CHECK.same("HIGH is not BAD", x.channel(4, 2), 8);
        x.pin(4, 1004);
        x.pass(90000);
        CHECK.same("COUNTER", x.channel(4, 2), 98);
        CHECK.same("not yet", x.channel(4, 3), 0);
        x.pass(10000);
        CHECK.same("100 at most", x.channel(4, 2), 100);
        CHECK.same("it FAILS", x.channel(4, 3), 1);
        CHECK.same("the SUBSTITUTE", x.channel(4, 1), 60);
        x.pin(4, 512);
        x.pass(990000);
        CHECK.same("COUNTER", x.channel(4, 2), 1);
        CHECK.same("it FAILS yet", x.channel(4, 3), 1);
        CHECK.same("the SUBSTITUTE yet", x.channel(4, 1), 60);
        x.pin(4, 256);
        x.pass(10000);
        CHECK.same("until it is 0", x.channel(4, 3), 0);
        CHECK.same("VALUE", x.channel(4, 1), 35);
        x.pass(10000);
        CHECK.same("0 at least", x.channel(4, 2), 0);
    }

    private static void rates() {
        EngineControl x = new EngineControl();
        x.limits(8, 0, 1023, 10);
        x.pin(8, 900);
        x.key(true);
        x.pass(10000);
        CHECK.same("not in the first LOOP", x.channel(8, 2), 0);
        x.pin(8, 910);
        x.pass(10000);
        CHECK.same("RATE itself", x.channel(8, 2), 0);
        x.pin(8, 899);
        x.pass(10000);
        CHECK.same("more than RATE, downwards", x.channel(8, 2), 10);
        CHECK.same("VALUE as before", x.channel(8, 1), 177);
        x.pass(10000);
        CHECK.same("the RAW of the LOOP before", x.channel(8, 2), 9);
        x.cut(0);
        x.pin(8, 0);
        x.key(true);
        x.pass(10000);
        CHECK.same("a new BOOT", x.channel(8, 2), 0);
        x.cut(0);
        x.limits(8, 0, 1023, 1023);
    }

    private static void substitutes() {
        int[] due = {0, 0, 60, 60, 60, 90, 20, 450, 130, 0};
        EngineControl x = new EngineControl();
        for (int c = 0; c < 10; c++) {
            x.limits(c, 600, 700, 1023);
        }
        x.key(true);
        x.pass(90000);
        for (int c = 0; c < 10; c++) {
            CHECK.same("COUNTER " + c, x.channel(c, 2), 90);
        }
        x.pass(10000);
        for (int c = 0; c < 10; c++) {
            CHECK.same("SUBSTITUTE " + c, x.channel(c, 1), due[c]);
            CHECK.same("FAILS " + c, x.channel(c, 3), 1);
        }
        CHECK.same("PEDAL with both FAILING", x.about(20), 0);
        CHECK.same("PLATE with both FAILING", x.about(21), 60);
        CHECK.same("LIMP", x.about(27), 1);
        x.cut(0);
        for (int c = 0; c < 10; c++) {
            CHECK.same("COUNTER is as at first " + c, x.channel(c, 2), 0);
            CHECK.same("FAILS is as at first " + c, x.channel(c, 3), 0);
        }
        x.key(true);
        x.pass(10000);
        CHECK.same("limits stay behind OFF", x.channel(7, 2), 10);
    }
}
