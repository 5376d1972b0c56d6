/**
 * What goes when the controller is OFF, and what stays: a much used object, once it is OFF, answers
 * like a new one on the same bench.
 */
public final class OffTest {
    private static final Check CHECK = new Check();
    /** What about() tells of the clock, the bench, the model, the car and of what is kept. */
    private static final int[] STAYS = {0, 14, 43, 44, 45, 46, 47, 48, 49, 50, 51, 52, 69, 70, 76, 77, 78, 79};

    public static void main(String[] args) {
        EngineControl used = new EngineControl();
        prepare(used);
        wear(used);
        CHECK.yes("it was worn", used.about(7) > 0 && used.about(22) > 0 && used.about(32) != 0);
        CHECK.yes("it was worn", used.about(60) > 0 && used.about(62) > 0 && used.about(68) > 0);
        CHECK.yes("it was worn", used.about(27) > 0 && used.about(28) > 0 && used.about(54) > 0);
        CHECK.yes("it was worn", used.about(34) != 0 || used.about(55) > 0 && used.about(41) > 0);
        used.cut(0);
        asAtFirst(used);
        for (int step = 0; step < 40; step++) {
            alike(step);
        }
        cutWhileRunning();
        CHECK.end();
    }

    private static void prepare(EngineControl x) {
        x.lock(99);
        x.calibrate(20, 1);
    }

    private static void ask(EngineControl x, int... data) {
        int[] all = new int[5];
        System.arraycopy(data, 0, all, 0, data.length);
        x.ask(data.length, all[0], all[1], all[2], all[3], all[4]);
    }

    private static void wear(EngineControl x) {
        x.key(true);
        x.pin(5, 200);
        x.car(0, 9000);
        x.car(1, 5);
        x.press(0);
        x.press(1);
        x.press(4);
        ask(x, 0x81);
        ask(x, 0x27, 1);
        int key = 3 * (x.byteOf(12) * 256 + x.byteOf(13)) + 4660;
        ask(x, 0x27, 2, key >> 8, key);
        ask(x, 0x34, 1);
        ask(x, 0x36, 0, 0, 1);
        ask(x, 0x27, 1);
        CHECK.same("LOADING", x.about(71), 2);
        x.hear(5, 0);
        x.hear(140, 0);
        for (int i = 0; i < 12; i++) {
            x.turn(240, 1000);
        }
        x.turn(117, 1000);
        x.frameComes(336, 0, 0);
        x.frameComes(336, 50 << 24, 50 ^ 0xA5);
        for (int i = 0; i < 6; i++) {
            x.frameComes(1281, 1, 1);
        }
        x.watch(true);
        x.brake(0, true);
        x.turn(60, 1300);
        x.cam(10);
        x.pin(0, 700);
        x.pin(1, 900);
        x.pin(2, 100);
        x.pin(3, 300);
        x.pass(250000);
        x.tooth(1000);
        x.tooth(100);
        x.tooth(100);
        x.tooth(300);
        x.tooth(20);
        x.noise(300);
        x.pin(2, 700);
        x.pin(3, 700);
        x.pass(10000);
    }

    /** A CUT when an injector is on, the mixture CLOSED, the cruise HOLDING and DIFFER 19. */
    private static void cutWhileRunning() {
        EngineControl x = new EngineControl();
        x.calibrate(18, 1000);
        x.pin(0, 20);
        x.pin(1, 20);
        x.pin(5, 200);
        x.car(0, 9000);
        x.car(1, 5);
        x.key(true);
        x.press(0);
        x.press(1);
        x.car(0, 8000);
        for (int i = 0; i < 6; i++) {
            x.turn(240, 1400);
        }
        for (int i = 0; i < 120 && x.cylinder(2, 3) == 0; i++) {
            x.turn(1, 1400);
        }
        x.turn(1, 1400);
        CHECK.same("the injector is on", x.cylinder(2, 3), 1);
        CHECK.same("CLOSED", x.about(31), 1);
        CHECK.yes("IDLING", x.about(23) > 0);
        CHECK.yes("CRUISING", x.about(57) > 0);
        long edges = x.about(14);
        x.cut(0);
        CHECK.same("no EDGE", x.about(14), edges);
        for (int what = 1; what < 8; what++) {
            CHECK.same("cylinder 2, " + what, x.cylinder(2, what), 0);
        }
        for (int what : new int[] {2, 5, 6, 12, 15, 17, 18, 22, 23, 31, 32, 35, 55, 56, 57, 64}) {
            CHECK.same("about(" + what + ")", x.about(what), 0);
        }
        CHECK.same("V", x.about(50), 8000);
        x.brake(0, true);
        x.key(true);
        x.pass(190000);
        x.cut(0);
        x.key(true);
        x.pass(190000);
        CHECK.same("DIFFER began anew", x.about(54), 0);
    }

    private static void asAtFirst(EngineControl x) {
        for (int what = 0; what < 80; what++) {
            boolean stays = false;
            for (int other : STAYS) {
                stays |= what == other;
            }
            long due = what == 33 ? 2 : what == 53 ? 1 : what == 58 ? 1000 : what == 59 ? 20 : 0;
            if (!stays) {
                CHECK.same("about(" + what + ") when OFF", x.about(what), due);
            }
        }
        for (int k = 0; k < 28; k++) {
            for (int what = 0; what < 7; what++) {
                CHECK.same("trouble when OFF", x.trouble(k, what), 0);
            }
        }
        for (int c = 0; c < 4; c++) {
            for (int what = 1; what < 8; what++) {
                CHECK.same("cylinder when OFF", x.cylinder(c, what), 0);
            }
        }
        CHECK.same("no FRAME", x.frame(0), EngineControl.NONE);
        CHECK.noSuch("nothing was SENT", () -> x.sent(0, 0));
        CHECK.yes("the LOG stays", x.about(14) > 0 && x.edge(0, 0) > 0);
        CHECK.yes("OUT stays", x.about(43) > 0);
        CHECK.same("V stays", x.about(50), 9000);
        CHECK.same("pins stay", x.channel(2, 0), 700);
    }

    private static void even(EngineControl used, EngineControl fresh) {
        used.drain();
        used.brake(0, false);
        fresh.car(0, 9000);
        fresh.car(1, 5);
        used.turn(240 - (int) used.about(45), 1000);
        used.pass((int) (10000 - used.about(0) % 10000));
        for (int c = 0; c < 10; c++) {
            used.pin(c, 512);
        }
        // BOOTS make the CHALLENGE.
        for (long boots = fresh.about(69); boots < used.about(69); boots++) {
            fresh.key(true);
            fresh.cut(0);
        }
        CHECK.same("WHERE", used.about(45), fresh.about(45));
    }

    /**
     * One that was used and one that is new do the same so many steps long, and are asked then for
     * everything but what stays. (Both are made anew for each step: 512 calls are all that is promised.)
     */
    private static void alike(int steps) {
        EngineControl used = new EngineControl();
        EngineControl fresh = new EngineControl();
        prepare(used);
        prepare(fresh);
        wear(used);
        used.cut(0);
        // The same bench: the wheel, the pins, the clock modulo a LOOP, and no words kept.
        forgetStore(used);
        even(used, fresh);
        for (int step = 0; step <= steps; step++) {
            act(used, step);
            act(fresh, step);
        }
        for (int what = 1; what < 80; what++) {
            if (what != 14 && what != 48 && what != 52) {
                CHECK.same("step " + steps + ", about(" + what + ")", used.about(what), fresh.about(what));
            }
        }
        for (int k = 0; k < 28; k++) {
            CHECK.same("step " + steps + ", trouble " + k, used.trouble(k, 0), fresh.trouble(k, 0));
        }
        for (int c = 0; c < 4; c++) {
            for (int what = 0; what < 8; what++) {
                CHECK.same("step " + steps + ", cylinder", used.cylinder(c, what), fresh.cylinder(c, what));
            }
        }
        int bytes = (int) Math.min(80, fresh.about(43));
        for (int i = 0; i < bytes; i++) {
            CHECK.same("step " + steps + ", byteOf", used.byteOf(i), fresh.byteOf(i));
        }
    }

    /** Nothing was written but by the CYCLE's end, so only HEADS can make a copy valid. */
    private static void forgetStore(EngineControl x) {
        x.spoil(0, 0, 0);
        x.spoil(1, 0, 0);
    }

    /** SPARKS, a wrong cam edge and a slip before the first LOOP: it compares them with 0. */
    private static void beforeTheFirstLoop(EngineControl x) {
        x.turn(240, 20);
        x.cam(1);
        x.tooth(1);
        x.pass((int) (10000 - x.about(0) % 10000));
        CHECK.same("SLIPS grew", x.trouble(15, 0), 32);
        CHECK.same("WRONGCAM grew", x.trouble(16, 0), 32);
        CHECK.same("SPARKS grew", x.trouble(19, 0), -4);
    }

    private static void act(EngineControl x, int step) {
        switch (step) {
            case 0: x.key(true); break;
            case 1: beforeTheFirstLoop(x); break;
            case 2: x.pass(10000); break;
            case 3: x.hear(17, 0); break;
            case 4: ask(x, 0x81); break;
            case 5: ask(x, 0x27, 2, 0, 0); break;
            case 6: ask(x, 0x36, 1, 0, 0); break;
            case 7: x.watch(true); break;
            case 8: x.pass(90000); break;
            case 9: x.brake(0, true); break;
            case 10: x.pass(180000); break;
            case 11: x.frameComes(336, 50 << 24, 7 << 8 | 50 ^ 7 ^ 0xA5); break;
            case 12: x.frameComes(1281, 1, 1); break;
            case 13: x.noise(256); break;
            case 14: x.press(0); break;
            case 15: x.press(2); break;
            case 16: x.watch(false); break;
            case 17: x.pass(100000); break;
            case 20: x.cam(0); break;
            case 21: x.tooth(20); break;
            case 22: x.pass(10000); break;
            case 35: x.pass(2000000); break;
            case 36: x.key(false); break;
            case 37: x.pass(500000); break;
            default: x.turn(180, 1000 + step); break;
        }
    }
}
