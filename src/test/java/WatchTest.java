/** Promises 22 watch, 23 answer. */
public final class WatchTest {
    private static final Check CHECK = new Check();

    public static void main(String[] args) {
        states();
        questions();
        shutting();
        rearming();
        CHECK.end();
    }

    private static void states() {
        EngineControl x = new EngineControl();
        CHECK.badState("watch while OFF", () -> x.watch(true));
        CHECK.badState("answer while OFF", () -> x.answer(8));
        x.key(true);
        CHECK.badState("answer while not armed", () -> x.answer(8));
        CHECK.no("watch(false) while not armed", x.watch(false));
        CHECK.same("no QUESTION", x.about(36), 0);
        CHECK.yes("watch(true)", x.watch(true));
        CHECK.no("watch(true) again", x.watch(true));
        CHECK.same("QUESTION", x.about(36), 1);
        CHECK.yes("watch(false)", x.watch(false));
        CHECK.same("no QUESTION", x.about(36), 0);
        x.watch(true);
        x.key(false);
        CHECK.badState("watch in the AFTER-RUN", () -> x.watch(true));
        CHECK.yes("answer in the AFTER-RUN", x.answer(8));
        x.pass(100000);
        CHECK.same("it goes on there", x.about(36), 6);
        x.cut(0);
        CHECK.badState("not armed any more", () -> x.answer(8));
    }

    private static void questions() {
        EngineControl x = new EngineControl();
        x.key(true);
        x.watch(true);
        int q = 1;
        for (int i = 0; i < 18; i++) {
            CHECK.same("QUESTION", x.about(36), q);
            CHECK.no("a wrong answer", x.answer((q * q + 8) % 16));
            CHECK.no("16 too much is wrong", x.answer((q * q + 7) % 16 + 16));
            CHECK.yes("a right answer", x.answer((q * q + 7) % 16));
            x.pass(90000);
            CHECK.same("not yet", x.about(36), q);
            x.pass(10000);
            q = (5 * q + 1) % 16;
            CHECK.same("WRONG", x.about(37), 0);
        }
        x.answer((q * q + 7) % 16);
        CHECK.no("a wrong one takes a right one back", x.answer(-1));
        x.pass(100000);
        CHECK.same("WRONG", x.about(37), 1);
    }

    private static void shutting() {
        EngineControl x = new EngineControl();
        x.key(true);
        x.watch(true);
        x.turn(240, 1000);
        CHECK.same("WRONG", x.about(37), 2);
        CHECK.same("not SHUT", x.about(28), 0);
        x.turn(59, 1000);
        CHECK.yes("something waits or goes on", x.cylinder(2, 7) > 0 || x.about(12) > 0);
        x.turn(1, 1000);
        CHECK.same("WRONG", x.about(37), 3);
        CHECK.same("SHUT", x.about(28), 1);
        x.pass(10000);
        CHECK.same("TARGET", x.about(24), 60);
        CHECK.same("DUTY", x.about(25), 0);
        x.turn(240, 1000);
        CHECK.same("FUEL 0 while SHUT", x.cylinder(0, 5) + x.cylinder(1, 5) + x.cylinder(3, 5), 0);
        x.pass(400000);
        CHECK.same("5 at most", x.about(37), 5);
        for (int i = 5; i > 0; i--) {
            CHECK.same("SHUT until WRONG is 0", x.about(28), 1);
            int q = (int) x.about(36);
            x.answer((q * q + 7) % 16);
            x.pass(100000);
            CHECK.same("WRONG", x.about(37), i - 1);
        }
        CHECK.same("SHUT ended", x.about(28), 0);
    }

    private static void rearming() {
        EngineControl x = new EngineControl();
        x.key(true);
        x.watch(true);
        x.pass(350000);
        CHECK.same("SHUT", x.about(28), 1);
        CHECK.no("armed anew", x.watch(true));
        CHECK.same("SHUT ends at once", x.about(28), 0);
        CHECK.same("WRONG", x.about(37), 0);
        CHECK.same("QUESTION", x.about(36), 1);
        x.pass(90000);
        CHECK.same("WAIT was 0", x.about(36), 1);
        x.pass(10000);
        CHECK.same("WAIT", x.about(36), 6);
        x.pass(200000);
        CHECK.same("SHUT", x.about(28), 1);
        x.watch(false);
        CHECK.same("SHUT ends with it", x.about(28), 0);
        x.pass(500000);
        CHECK.same("nothing more", x.about(28) + x.about(37), 0);
    }
}
