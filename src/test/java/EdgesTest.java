/** Edges that the other tests leave open: order, ends of ranges, and numbers met exactly. */
public final class EdgesTest {
    private static final Check CHECK = new Check();

    public static void main(String[] args) {
        greatestArguments();
        loopBeforeEvent();
        eventsInTheOrderOfPutting();
        allOffByCylinders();
        allOffForgetsSegments();
        fuelEnds();
        roughIsNotAboveItself();
        idleNumbers();
        longByShort();
        longEnds();
        sameEnds();
        clearedShort();
        missedCams();
        pids();
        frames513And1056();
        rearmedQuestion();
        requestOverOff();
        lampOfTroubleZero();
        overflow();
        CHECK.end();
    }

    private static void build(EngineControl x, String text) {
        for (int i = 0; i < text.length(); i++) {
            x.unit(text.charAt(i));
        }
        CHECK.yes("build", x.build() > 0);
    }

    private static void ask(EngineControl x, int... data) {
        int[] all = new int[5];
        System.arraycopy(data, 0, all, 0, data.length);
        x.drain();
        x.ask(data.length, all[0], all[1], all[2], all[3], all[4]);
    }

    private static void greatestArguments() {
        EngineControl x = new EngineControl();
        x.turn(1, 100000);
        x.hear(0, 1000000);
        x.tooth(1000000);
        x.cam(1000000);
        x.load(400);
        CHECK.same("TIME", x.about(0), 3100000);
        CHECK.same("noise(0)", x.noise(0), 0);
        CHECK.noSuch("record: a alone", () -> x.record(1, 80, 0, 0));
        CHECK.noSuch("record: b alone", () -> x.record(1, 0, -1, 0));
        CHECK.noSuch("record: c alone", () -> x.record(1, 0, 0, 80));
        CHECK.noSuch("record: a below 0", () -> x.record(1, -1, 0, 0));
        CHECK.noSuch("record: b above 79", () -> x.record(1, 0, 80, 0));
        CHECK.noSuch("record: c below 0", () -> x.record(1, 0, 0, -1));
        x.record(100, 79, 79, 79);
        x.cut(1);
        x.key(true);
        x.key(false);
        x.pass(1000000);
        CHECK.same("cut(1)", x.about(48), 1);
    }

    // Edges of the wheel come 500 behind multiples of 1000; INJECT at 6570 comes at 230000.
    private static void loopBeforeEvent() {
        EngineControl x = new EngineControl();
        x.calibrate(0, 1);
        x.calibrate(1, 870);
        x.record(1, 14, 0, 12);
        x.key(true);
        x.pass(500);
        x.turn(235, 1000);
        CHECK.same("INJECT", x.edge(0, 0), 230000);
        CHECK.same("TIME of the LOOP", x.row(22, 1), 230000);
        CHECK.same("the LOOP was before it", x.row(22, 0), 0);
        CHECK.same("the EVENT was there", x.row(22, 2), 1);
        CHECK.same("no more of it", x.about(14), 2);
    }

    // ADVANCE -100 and INJECTION 100: SPARK of a cylinder and INJECT of the next have one angle.
    private static void eventsInTheOrderOfPutting() {
        EngineControl x = new EngineControl();
        x.calibrate(3, 100);
        for (int i = 0; i < 4; i++) {
            for (int j = 0; j < 4; j++) {
                x.cell(1, i, j, -100);
            }
        }
        x.key(true);
        x.turn(240, 1000);
        x.turn(120, 1000);
        int pairs = 0;
        for (int i = 1; i < x.about(14); i++) {
            boolean together = x.edge(i, 0) == x.edge(i - 1, 0);
            if (together && x.edge(i, 1) == 0 && x.edge(i - 1, 1) == 3) {
                pairs++;
                CHECK.same("SPARK of the one before", x.edge(i - 1, 2), x.edge(i, 2) - 1);
            }
            if (together && x.edge(i, 1) == 3 && x.edge(i - 1, 1) == 0) {
                pairs++;
                CHECK.same("INJECT of 0 is put first", x.edge(i - 1, 2), 0);
                CHECK.same("SPARK of 3", x.edge(i, 2), 3);
            }
        }
        CHECK.yes("there were some", pairs >= 4);
    }

    private static void allOffByCylinders() {
        EngineControl x = new EngineControl();
        x.calibrate(0, 8);
        for (int i = 0; i < 4; i++) {
            for (int j = 0; j < 4; j++) {
                x.cell(0, i, j, 20000);
            }
        }
        x.key(true);
        x.turn(240, 1000);
        x.turn(59, 1000);
        int on = 0;
        while (x.cylinder(0, 3) == 0 || x.cylinder(1, 3) == 0) {
            x.turn(1, 1000);
            on++;
            if (on > 240) {
                break;
            }
        }
        int first = (int) x.about(14);
        int due = 0;
        for (int c = 0; c < 8; c++) {
            due += x.cylinder(c, 3) + x.cylinder(c, 4);
        }
        x.key(false);
        int now = (int) x.about(14);
        CHECK.same("each that was on has an EDGE", now - first, due);
        int from = Math.min(200, now) - due;
        int before = -1;
        for (int i = from; i < from + due; i++) {
            long rank = x.edge(i, 1) * 10 + x.edge(i, 2);
            CHECK.yes("injectors by cylinders, then coils", rank > before);
            CHECK.yes("kinds 1 and 4", x.edge(i, 1) == 1 || x.edge(i, 1) == 4);
            CHECK.same("at once", x.edge(i, 0), x.about(0));
            before = (int) rank;
        }
        CHECK.same("all are off", x.cylinder(0, 3) + x.cylinder(1, 3), 0);
    }

    // KEY off and on again: the long time without PLANNING is no MISS.
    private static void allOffForgetsSegments() {
        EngineControl x = new EngineControl();
        x.key(true);
        x.turn(240, 1000);
        x.turn(240, 1000);
        x.key(false);
        x.turn(240, 1000);
        x.key(true);
        x.turn(240, 1000);
        for (int c = 0; c < 4; c++) {
            CHECK.same("MISSES", x.cylinder(c, 2), 0);
        }
        x.key(false);
        x.key(true);
        x.turn(30, 1000);
        x.turn(30, 1300);
        for (int c = 0; c < 4; c++) {
            CHECK.same("no S of the time before ALL OFF", x.cylinder(c, 2), 0);
        }
        x.turn(30, 1700);
        int sum = 0;
        for (int c = 0; c < 4; c++) {
            sum += x.cylinder(c, 2);
        }
        CHECK.same("then S and S0 are known", sum, 1);
    }

    private static int fuel(int cell, int dead) {
        EngineControl x = new EngineControl();
        for (int i = 0; i < 4; i++) {
            for (int j = 0; j < 4; j++) {
                x.cell(0, i, j, cell);
            }
        }
        x.line(10, 0, 1000, 1, 1000);
        x.line(11, 0, dead, 1, dead);
        x.key(true);
        x.turn(240, 1000);
        return x.cylinder(0, 5);
    }

    private static void fuelEnds() {
        CHECK.same("no DEAD behind 0", fuel(0, 500), 0);
        CHECK.same("DEAD behind 1", fuel(1, 500), 501);
        CHECK.same("25000 at most", fuel(20000, 30000), 25000);
        CHECK.same("25000 itself", fuel(20000, 5000), 25000);
        CHECK.same("0 at least", fuel(20, -10000), 0);
        CHECK.same("below it", fuel(20, -19), 1);
        EngineControl x = new EngineControl();
        x.calibrate(5, 1250);
        x.key(true);
        x.turn(240, 800);
        CHECK.same("CUTTING", x.about(19), 1);
        x.turn(120, 952);
        CHECK.same("SPEED 1050 is not below", x.about(19), 1);
        CHECK.same("SPEED", x.about(6), 1050);
    }

    // One MISS by the slower turns, ROUGH 1: not above it.
    private static void roughIsNotAboveItself() {
        EngineControl x = new EngineControl();
        x.calibrate(0, 8);
        x.calibrate(20, 1);
        x.key(true);
        x.turn(240, 1000);
        x.turn(240, 1200);
        int misses = 0;
        for (int c = 0; c < 8; c++) {
            misses += x.cylinder(c, 2);
        }
        CHECK.same("one MISS", misses, 1);
        for (int i = 0; i < 30 && x.trouble(20, 0) == 0; i++) {
            x.turn(120, 1200);
        }
        for (int c = 0; c < 8; c++) {
            CHECK.same("it passes", x.trouble(20 + c, 0), -4);
        }
    }

    /** By how much IDLING grows in a LOOP at a pitch, with a rule for a. */
    private static long idles(String rule, int pitch) {
        EngineControl x = new EngineControl();
        x.pin(0, 20);
        x.pin(1, 20);
        x.calibrate(18, 1000);
        x.calibrate(9, 800);
        build(x, rule);
        x.key(true);
        x.turn(61, pitch);
        x.turn(1, pitch);
        x.pass((int) (10000 - x.about(0) % 10000));
        long before = x.about(23);
        x.pass(10000);
        return x.about(23) - before;
    }

    private static void idleNumbers() {
        CHECK.same("FLOOR(288 / 32)", idles("a=0", 1953), 9);
        CHECK.same("a 200 at most: FLOOR(31 / 32)", idles("a=300", 1031), 0);
        CHECK.same("a 200: FLOOR(32 / 32)", idles("a=200", 1033), 1);
        CHECK.same("a -200 at least: 32 / 32", idles("a=-300", 1760), 1);
        EngineControl x = new EngineControl();
        x.pin(0, 20);
        x.pin(1, 20);
        x.calibrate(18, 1000);
        x.calibrate(9, 2000);
        x.key(true);
        x.turn(62, 2000);
        x.pass(400000);
        CHECK.same("250 at most", x.about(23), 250);
    }

    /** CLOSED without a tooth for two seconds: LAMBDA can be told LOOP by LOOP. */
    private static EngineControl closed(int step) {
        EngineControl x = new EngineControl();
        x.calibrate(2, 2000000);
        x.calibrate(12, step);
        x.line(7, 0, 0, 1023, 1023);
        x.line(5, 0, 50, 1023, 1073);
        x.limits(5, 0, 1023, 1023);
        x.pin(5, 0);
        x.key(true);
        x.turn(240, 1000);
        CHECK.same("not yet", x.about(31), 0);
        x.pin(5, 20);
        return x;
    }

    private static void lambda(EngineControl x, int v) {
        x.pin(7, v);
        x.pass(10000);
    }

    // 5 lean LOOPS by 4 make SHORT 20; each other LOOP brings it back there.
    private static long longBehind(int step, int lean) {
        EngineControl x = closed(step);
        for (int i = 1; i <= 101; i++) {
            lambda(x, i <= lean || (i - lean) % 2 == 0 ? 450 : 451);
        }
        CHECK.same("SHORT", x.about(32), step * lean);
        return x.about(34);
    }

    private static void longByShort() {
        CHECK.same("SHORT 20 is not above 20", longBehind(4, 5), 0);
        CHECK.same("SHORT 21", longBehind(3, 7), 1);
        EngineControl x = closed(3);
        for (int i = 1; i <= 101; i++) {
            lambda(x, i <= 7 || (i - 7) % 2 == 0 ? 451 : 450);
        }
        CHECK.same("SHORT -21", x.about(32), -21);
        CHECK.same("1 less", x.about(34), -1);
        EngineControl y = closed(4);
        for (int i = 1; i <= 101; i++) {
            lambda(y, i <= 5 || (i - 5) % 2 == 0 ? 451 : 450);
        }
        CHECK.same("SHORT -20 is not below -20", y.about(34), 0);
        EngineControl z = closed(2);
        for (int i = 1; i <= 60; i++) {
            lambda(z, 100);
        }
        z.pin(4, 100);
        z.pass(10000);
        z.pin(4, 512);
        for (int i = 1; i <= 60; i++) {
            lambda(z, 100);
        }
        CHECK.same("another CELL makes HELD 0", z.about(34), 0);
        CHECK.same("and is another one", z.about(33), 2);
    }

    private static void longEnds() {
        EngineControl x = new EngineControl();
        x.spoil(0, 0, 1);
        x.spoil(0, 39, 100);
        x.spoil(0, 54, 1 + 40 * 100);
        x.pin(5, 300);
        x.pin(7, 100);
        x.key(true);
        for (int i = 0; i < 12; i++) {
            x.turn(240, 1000);
        }
        CHECK.same("100 at most", x.about(34), 100);
        x.pin(7, 900);
        for (int i = 0; i < 20; i++) {
            x.turn(240, 1000);
        }
        CHECK.yes("it goes down again", x.about(34) < 100);
        EngineControl y = new EngineControl();
        y.spoil(0, 0, 1);
        y.spoil(0, 39, -100);
        y.spoil(0, 54, 1 - 40 * 100);
        y.pin(5, 300);
        y.key(true);
        for (int i = 0; i < 12; i++) {
            y.turn(240, 1000);
        }
        CHECK.same("-100 at least", y.about(34), -100);
    }

    private static void sameEnds() {
        EngineControl x = new EngineControl();
        x.pin(5, 300);
        x.key(true);
        for (int i = 0; i < 42; i++) {
            x.turn(240, 1000);
        }
        int more = 0;
        while (x.trouble(17, 0) == 0 && more < 60) {
            x.turn(10, 1000);
            more++;
        }
        CHECK.same("SAME is 1000", x.trouble(17, 0), 32);
        x.pin(5, 1000);
        x.turn(10, 1000);
        CHECK.same("not CLOSED: SAME is 0", x.trouble(17, 0), 32);
        x.pin(5, 300);
        x.turn(20, 1000);
        CHECK.same("CLOSED again", x.about(31), 1);
        CHECK.same("SAME began anew", x.trouble(17, 0), 32);
        x.pin(7, 100);
        x.turn(10, 1000);
        CHECK.same("the other side: it passes", x.trouble(17, 0), 28);
    }

    private static void clearedShort() {
        EngineControl x = new EngineControl();
        x.pin(5, 300);
        x.key(true);
        for (int i = 0; i < 9; i++) {
            x.turn(240, 1000);
        }
        CHECK.same("SHORT", x.about(32), -250);
        ask(x, 0x81);
        ask(x, 1, 6);
        CHECK.same("PID 6", x.byteOf(5), 96);
        x.pass(600000);
        CHECK.same("LOST", x.about(2), EngineControl.LOST);
        CHECK.yes("SHORT is not yet 0", x.about(32) < -100);
        ask(x, 4);
        CHECK.same("04h", x.byteOf(3), 0x44);
        CHECK.same("SHORT", x.about(32), 0);
    }

    private static void missedCams() {
        EngineControl x = new EngineControl();
        x.key(true);
        x.turn(1, 1000);
        x.tooth(1000);
        x.tooth(1000);
        x.tooth(3000);
        for (int i = 0; i < 15; i++) {
            x.tooth(1000);
        }
        x.cam(0);
        int tooth = spin(x, 15, 237);
        CHECK.same("MISSED", x.about(8), 1);
        tooth = spin(x, tooth, 1);
        CHECK.same("TOOTH", x.about(3), 21);
        CHECK.same("MISSED", x.about(8), 2);
        int before = x.trouble(16, 0);
        long loops = x.about(11);
        tooth = spin(x, tooth, 10);
        CHECK.same("a LOOP came", x.about(11), loops + 1);
        CHECK.same("MISSED 2 neither fails nor passes", x.trouble(16, 0), before);
        tooth = spin(x, tooth, 105);
        CHECK.same("MISSED", x.about(8), 2);
        spin(x, tooth, 1);
        CHECK.same("MISSED", x.about(8), 3);
        x.pass((int) (10000 - x.about(0) % 10000));
        CHECK.same("MISSED 3 fails", x.trouble(16, 0), before + 32);
    }

    /** So many teeth without a cam edge, from this one on: which one it is at then. */
    private static int spin(EngineControl x, int tooth, int n) {
        int at = tooth;
        for (int i = 0; i < n; i++) {
            x.tooth(at == 57 ? 3000 : 1000);
            at = at == 57 ? 0 : at + 1;
        }
        return at;
    }

    private static void pids() {
        EngineControl x = new EngineControl();
        x.pin(2, 819);
        x.pin(3, 819);
        x.pin(5, 300);
        x.key(true);
        ask(x, 0x81);
        ask(x, 1, 17);
        CHECK.same("PLATE 800", x.byteOf(5), 204);
        x.turn(70, 1000);
        ask(x, 1, 3);
        CHECK.same("HALF", x.byteOf(5), 1);
        x.pass(1300000);
        ask(x, 1, 31);
        CHECK.same("LOOPS", x.byteOf(5) * 256 + x.byteOf(6), x.about(11) / 100);
        x.pass(600000);
        ask(x, 1, 31);
        CHECK.same("LOOPS 2xx / 100", x.byteOf(6), 2);
        EngineControl z = new EngineControl();
        z.key(true);
        ask(z, 0x81);
        z.pass(1940000);
        ask(z, 1, 31);
        CHECK.same("LOOPS", z.about(11), 200);
        CHECK.same("200 / 100", z.byteOf(6), 2);
        EngineControl y = new EngineControl();
        y.pin(5, 300);
        y.limits(7, 0, 600, 1023);
        y.key(true);
        ask(y, 0x81);
        y.turn(240, 1000);
        ask(y, 1, 3);
        CHECK.same("CLOSED", y.byteOf(5), 2);
        y.pin(7, 700);
        y.turn(240, 1000);
        ask(y, 1, 3);
        CHECK.same("LAMBDA FAILS", y.byteOf(5), 8);
    }

    private static void frames513And1056() {
        EngineControl x = new EngineControl();
        x.calibrate(18, 1000);
        x.line(0, 0, 30000, 1, 30000);
        x.line(1, 0, 30000, 1, 30000);
        x.line(2, 0, -50, 1, -50);
        x.line(3, 0, -50, 1, -50);
        x.line(5, 0, 5000, 1, 5000);
        x.car(0, 20000);
        x.car(1, 3);
        x.key(true);
        x.press(0);
        x.press(1);
        x.pass(100000);
        int i = (int) x.about(63) - 1;
        CHECK.same("COOLANT is cut", x.sent(i, 1) >>> 24, 255);
        CHECK.same("PEDAL is cut", x.sent(i - 1, 1) & 255, 255);
        CHECK.same("PLATE is cut", x.sent(i - 1, 1) >>> 8 & 255, 0);
        CHECK.same("HOLDING", x.sent(i - 1, 2) >>> 24, 16);
        CHECK.same("V / 200", x.sent(i - 1, 2) >>> 16 & 255, 100);
        EngineControl y = new EngineControl();
        y.line(5, 0, -500, 1, -500);
        y.line(2, 0, 30000, 1, 30000);
        y.line(3, 0, 30000, 1, 30000);
        y.calibrate(5, 1000);
        y.key(true);
        y.turn(240, 200);
        y.pass(100000);
        i = (int) y.about(63) - 1;
        while (i > 0 && y.sent(i, 0) != 1056) {
            i--;
        }
        CHECK.same("COOLANT is cut", y.sent(i, 1) >>> 24, 0);
        CHECK.same("513", y.sent(i - 1, 0), 513);
        CHECK.same("PLATE is cut", y.sent(i - 1, 1) >>> 8 & 255, 255);
        CHECK.same("CUTTING", y.sent(i - 1, 2) >>> 24 & 4, 4);
    }

    private static void rearmedQuestion() {
        EngineControl x = new EngineControl();
        x.key(true);
        x.watch(true);
        CHECK.yes("answer", x.answer(8));
        x.watch(true);
        x.pass(100000);
        CHECK.same("armed anew it is not answered", x.about(37), 1);
        x.answer((6 * 6 + 7) % 16);
        x.pass(100000);
        CHECK.same("answered", x.about(37), 0);
        x.pass(100000);
        CHECK.same("the next QUESTION is not answered", x.about(37), 1);
    }

    private static void requestOverOff() {
        EngineControl x = new EngineControl();
        x.key(true);
        x.hear(129, 0);
        x.hear(17, 0);
        x.cut(0);
        x.key(true);
        x.hear(241, 0);
        x.hear(0x81, 0);
        x.hear((129 + 17 + 241 + 0x81) & 255, 0);
        CHECK.same("what came before OFF is gone", x.about(40), 0);
    }

    private static void lampOfTroubleZero() {
        EngineControl x = new EngineControl();
        x.spoil(0, 0, 1);
        x.spoil(0, 1, 2);
        x.spoil(0, 54, 1 + 2 * 2);
        x.key(true);
        CHECK.same("the LAMP", x.about(38), 1);
        x.cut(0);
        x.spoil(0, 1, 2 + 4 * 3);
        x.spoil(0, 54, 1 + 2 * 14);
        x.key(true);
        CHECK.same("HEALED 3", x.about(38), 0);
        ask(x, 0x81);
        ask(x, 1, 1);
        CHECK.same("one CONFIRMED without the LAMP", x.byteOf(5), 1);
        ask(x, 3);
        CHECK.same("its CODE", x.byteOf(4) * 256 + x.byteOf(5), 256);
    }

    // Coils of eight cylinders go on each 2400 ticks, their cutoffs stay for 20000: 64 and no more.
    private static void overflow() {
        EngineControl x = new EngineControl();
        x.calibrate(0, 8);
        x.calibrate(4, 20000);
        x.key(true);
        long most = 0;
        x.turn(240, 20);
        x.turn(240, 20);
        x.turn(240, 20);
        for (int i = 0; i < 200; i++) {
            x.turn(15, 20);
            most = Math.max(most, x.about(12));
        }
        CHECK.same("EVENTS", most, 64);
        CHECK.yes("OVER", x.about(13) > 0);
        x.cut(0);
        CHECK.same("none when OFF", x.about(12) + x.about(13), 0);
    }
}
