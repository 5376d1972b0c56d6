/**
 * "A call that throws changes nothing; of several exceptions the one named first is thrown.": each
 * number of each call of the face just inside and just outside, and that nothing has changed then.
 */
public final class RefusedCallsTest {
    private static final int LEAST = Integer.MIN_VALUE;
    private static final int GREATEST = Integer.MAX_VALUE;
    private static final Check CHECK = new Check();

    public static void main(String[] args) {
        passingTime();
        wheel();
        benchNumbers();
        pinsAndLimits();
        lines();
        points();
        axes();
        cells();
        numbers();
        cuts();
        wordsAndPages();
        watchAndAnswer();
        testerLine();
        tellers();
        carAndBus();
        lockAndRecorder();
        comes();
        CHECK.end();
    }

    // ==== Histories

    private static void fresh(EngineControl x) {
    }

    /** All that can be told is something else than at first. */
    private static void used(EngineControl x) {
        x.calibrate(0, 3);
        x.calibrate(16, 7);
        x.limits(4, 30, 1000, 900);
        x.point(7, 1500, 1200);
        x.axis(0, 1, 20, 55, 80, 90);
        x.cell(1, 2, 2, 333);
        Rig.store(x, 1, 7, 3, 3, 29, 3, 31, 55, 40, 12);
        x.lock(4711);
        Rig.build(x, "d=n>30?1:0;b=3");
        x.record(2, 11, 6, 44);
        x.unit('a');
        x.unit('=');
        x.load(40);
        x.set(0, true);
        x.cut(900);
        x.key(true);
        x.pin(0, 300);
        x.pin(1, 310);
        x.car(0, 5000);
        x.car(1, 4);
        x.brake(1, true);
        x.brake(1, false);
        x.press(0);
        x.press(1);
        x.watch(true);
        x.answer(3);
        x.noise(20);
        Rig.allow(x, 90, 3);
        x.frameComes(1281, 5, 5);
        x.turn(180, 1000);
        x.turn(125, 1000);
    }

    private static void open(EngineControl x) {
        used(x);
        x.pass(500000);
        Rig.open(x);
        Rig.ask(x, 0x34, 1);
        Rig.ask(x, 0x36, 0, 0, 9);
        x.hear(130, 30000);
        x.hear(17, 0);
    }

    private static void after(EngineControl x) {
        used(x);
        x.key(false);
        x.pass(50000);
    }

    private static void off(EngineControl x) {
        after(x);
        x.pass(1000000);
    }

    // ==== What is looked at

    private static void refused(String what, Class<?> due, Twins.Use history, Twins.Use call) {
        String changed = Twins.difference(history, x -> {
            Class<?> thrown = null;
            try {
                call.on(x);
            } catch (RuntimeException e) {
                thrown = e.getClass();
            }
            CHECK.yes(what + " threw " + thrown + ", due is " + due, thrown == due);
        });
        CHECK.yes(what + " changed " + changed, changed == null);
    }

    private static void noSuch(String what, Twins.Use call) {
        refused(what, IndexOutOfBoundsException.class, RefusedCallsTest::fresh, call);
        refused(what + " while ON", IndexOutOfBoundsException.class, RefusedCallsTest::open, call);
    }

    private static void badArgument(String what, Twins.Use call) {
        refused(what, IllegalArgumentException.class, RefusedCallsTest::fresh, call);
        refused(what + " while ON", IllegalArgumentException.class, RefusedCallsTest::open, call);
        refused(what + " when OFF again", IllegalArgumentException.class, RefusedCallsTest::off, call);
    }

    /** Refused while the controller is ON or in its AFTER-RUN, though its numbers are right. */
    private static void onlyOff(String what, Twins.Use call) {
        refused(what + " while ON", IllegalStateException.class, RefusedCallsTest::used, call);
        refused(what + " in the AFTER-RUN", IllegalStateException.class, RefusedCallsTest::after, call);
        call.on(new EngineControl());
    }

    private static void taken(String what, Twins.Use call) {
        try {
            EngineControl x = new EngineControl();
            call.on(x);
            EngineControl again = new EngineControl();
            off(again);
            call.on(again);
        } catch (RuntimeException e) {
            CHECK.no(what + " threw " + e, true);
        }
    }

    // ==== The calls

    private static void passingTime() {
        badArgument("pass(-1)", x -> x.pass(-1));
        badArgument("pass(2000001)", x -> x.pass(2000001));
        badArgument("pass(least)", x -> x.pass(LEAST));
        badArgument("pass(greatest)", x -> x.pass(GREATEST));
        EngineControl x = new EngineControl();
        x.pass(0);
        CHECK.same("pass(0)", x.about(0), 0);
        x.pass(2000000);
        CHECK.same("pass(2000000)", x.about(0), 2000000);
    }

    private static void wheel() {
        badArgument("tooth(0)", x -> x.tooth(0));
        badArgument("tooth(-1)", x -> x.tooth(-1));
        badArgument("tooth(1000001)", x -> x.tooth(1000001));
        badArgument("cam(-1)", x -> x.cam(-1));
        badArgument("cam(1000001)", x -> x.cam(1000001));
        badArgument("turn(0, 20)", x -> x.turn(0, 20));
        badArgument("turn(241, 20)", x -> x.turn(241, 20));
        badArgument("turn(1, 19)", x -> x.turn(1, 19));
        badArgument("turn(1, 100001)", x -> x.turn(1, 100001));
        badArgument("turn(-1, 0)", x -> x.turn(-1, 0));
        badArgument("run(0)", x -> x.run(0));
        badArgument("run(241)", x -> x.run(241));
        badArgument("run(least)", x -> x.run(LEAST));
        EngineControl x = new EngineControl();
        x.tooth(1);
        x.tooth(1000000);
        x.cam(0);
        x.cam(1000000);
        CHECK.same("TIME", x.about(0), 2000001);
        x.turn(1, 20);
        CHECK.same("TIME", x.about(0), 2000021);
        x.turn(1, 100000);
        CHECK.same("TIME", x.about(0), 2100021);
        CHECK.same("WHERE", x.about(45), 2);
        x.turn(240, 20);
        CHECK.same("WHERE behind two rounds", x.about(45), 2);
        x.set(0, true);
        CHECK.same("run(1)", x.run(1), 1);
        CHECK.same("run(240)", x.run(240), 240);
    }

    private static void benchNumbers() {
        noSuch("set(-1)", x -> x.set(-1, true));
        noSuch("set(2)", x -> x.set(2, true));
        noSuch("set(2, false)", x -> x.set(2, false));
        badArgument("load(-1)", x -> x.load(-1));
        badArgument("load(401)", x -> x.load(401));
        EngineControl x = new EngineControl();
        CHECK.same("load(400)", x.load(400), 0);
        CHECK.same("load(0)", x.load(0), 400);
        CHECK.no("STARTER off", x.set(0, false));
        CHECK.yes("STARTER on", x.set(0, true));
        CHECK.no("STARTER on", x.set(0, true));
        CHECK.yes("AUTO on", x.set(1, true));
        CHECK.yes("AUTO off", x.set(1, false));
        CHECK.yes("STARTER off", x.set(0, false));
    }

    private static void pinsAndLimits() {
        noSuch("pin(-1)", x -> x.pin(-1, 5));
        noSuch("pin(10)", x -> x.pin(10, 5));
        noSuch("pin(10, -1)", x -> x.pin(10, -1));
        badArgument("pin(0, -1)", x -> x.pin(0, -1));
        badArgument("pin(9, 1024)", x -> x.pin(9, 1024));
        noSuch("limits(-1)", x -> x.limits(-1, 1, 2, 3));
        noSuch("limits(10)", x -> x.limits(10, 1, 2, 3));
        noSuch("limits(10), all wrong", x -> x.limits(10, -1, 2, 3));
        badArgument("low -1", x -> x.limits(0, -1, 5, 5));
        badArgument("low 1024", x -> x.limits(0, 1024, 1023, 5));
        badArgument("high -1", x -> x.limits(0, 0, -1, 5));
        badArgument("high 1024", x -> x.limits(0, 0, 1024, 5));
        badArgument("rate -1", x -> x.limits(0, 0, 5, -1));
        badArgument("rate 1024", x -> x.limits(0, 0, 5, 1024));
        badArgument("low above high", x -> x.limits(9, 6, 5, 0));
        onlyOff("limits", x -> x.limits(0, 5, 5, 0));
        taken("limits(0, 0, 0, 0)", x -> x.limits(0, 0, 0, 0));
        taken("limits(9, 1023, 1023, 1023)", x -> x.limits(9, 1023, 1023, 1023));
        EngineControl x = new EngineControl();
        CHECK.same("pin(0, 0)", x.pin(0, 0), 512);
        CHECK.same("pin(9, 1023)", x.pin(9, 1023), 512);
        CHECK.same("pin(9, 0)", x.pin(9, 0), 1023);
    }

    private static void lines() {
        noSuch("line(-1)", x -> x.line(-1, 0, 0, 1, 1));
        noSuch("line(13)", x -> x.line(13, 0, 0, 1, 1));
        noSuch("line(13), x wrong too", x -> x.line(13, 1, 0, 0, 1));
        badArgument("x0 -10001", x -> x.line(0, -10001, 0, 1, 1));
        badArgument("x0 30001", x -> x.line(0, 30001, 0, 30002, 1));
        badArgument("v0 -10001", x -> x.line(0, 0, -10001, 1, 1));
        badArgument("v0 30001", x -> x.line(0, 0, 30001, 1, 1));
        badArgument("x1 30001", x -> x.line(0, 0, 0, 30001, 1));
        badArgument("v1 -10001", x -> x.line(0, 0, 0, 1, -10001));
        badArgument("v1 30001", x -> x.line(0, 0, 0, 1, 30001));
        badArgument("x0 is x1", x -> x.line(0, 7, 0, 7, 1));
        badArgument("x0 above x1", x -> x.line(0, 8, 0, 7, 1));
        badArgument("LINE 12, v0 99", x -> x.line(12, 100, 99, 200, 100));
        badArgument("LINE 12, v1 99", x -> x.line(12, 100, 100, 200, 99));
        onlyOff("line", x -> x.line(12, 100, 100, 101, 30000));
        taken("the ends of all numbers", x -> x.line(0, -10000, 30000, 30000, -10000));
        taken("LINE 11 from -10000 on", x -> x.line(11, -10000, -10000, -9999, -10000));
        noSuch("lineAt(-1)", x -> x.lineAt(-1, 0));
        noSuch("lineAt(13)", x -> x.lineAt(13, 0));
    }

    private static void points() {
        noSuch("point(-1)", x -> x.point(-1, 2000, 1));
        noSuch("point(13)", x -> x.point(13, 2000, 1));
        noSuch("point(13), x wrong too", x -> x.point(13, 30001, 1));
        badArgument("x not above", x -> x.point(0, 1023, 1));
        badArgument("x 30001", x -> x.point(0, 30001, 1));
        badArgument("v -10001", x -> x.point(0, 2000, -10001));
        badArgument("v 30001", x -> x.point(0, 2000, 30001));
        badArgument("LINE 12, v 99", x -> x.point(12, 161, 99));
        onlyOff("point", x -> x.point(0, 1024, -10000));
        onlyOff("point of LINE 12", x -> x.point(12, 161, 100));
        Twins.Use eight = x -> {
            for (int i = 3; i <= 8; i++) {
                CHECK.same("points", x.point(3, 1020 + i + i, i), i);
            }
        };
        refused("a ninth point", IllegalStateException.class, eight, x -> x.point(3, 2000, 1));
        refused("a ninth point, x wrong", IllegalArgumentException.class, eight, x -> x.point(3, 1036, 1));
        refused("a ninth point, v wrong", IllegalArgumentException.class, eight, x -> x.point(3, 2000, 30001));
        EngineControl x = new EngineControl();
        eight.on(x);
        x.line(3, 0, 0, 1, 1);
        CHECK.same("two again, then a third", x.point(3, 30000, 30000), 3);
        CHECK.badArgument("nothing is above 30000", () -> x.point(3, 30000, 1));
    }

    private static void axes() {
        noSuch("axis(-1)", x -> x.axis(-1, 0, 1, 2, 3, 4));
        noSuch("axis(2)", x -> x.axis(2, 0, 1, 2, 3, 4));
        noSuch("axis(0, -1)", x -> x.axis(0, -1, 1, 2, 3, 4));
        noSuch("axis(1, 2)", x -> x.axis(1, 2, 1, 2, 3, 4));
        noSuch("axis(2, 0), points wrong too", x -> x.axis(2, 0, 1, 1, 1, 1));
        badArgument("a -1", x -> x.axis(0, 0, -1, 2, 3, 4));
        badArgument("d 10001", x -> x.axis(0, 0, 1, 2, 3, 10001));
        badArgument("a is b", x -> x.axis(0, 1, 2, 2, 3, 4));
        badArgument("b is c", x -> x.axis(1, 0, 1, 3, 3, 4));
        badArgument("c is d", x -> x.axis(1, 1, 1, 2, 4, 4));
        badArgument("a above b", x -> x.axis(0, 1, 3, 2, 3, 4));
        badArgument("b above c", x -> x.axis(0, 1, 1, 4, 3, 5));
        badArgument("c above d", x -> x.axis(0, 1, 1, 2, 5, 4));
        onlyOff("axis", x -> x.axis(1, 1, 0, 1, 2, 3));
        taken("axis from 0 to 10000", x -> x.axis(0, 0, 0, 1, 9999, 10000));
        noSuch("value(-1)", x -> x.value(-1, 0, 0));
        noSuch("value(2)", x -> x.value(2, 0, 0));
    }

    private static void cells() {
        noSuch("cell(-1)", x -> x.cell(-1, 0, 0, 1));
        noSuch("cell(2)", x -> x.cell(2, 0, 0, 1));
        noSuch("cell(0, -1, 1)", x -> x.cell(0, -1, 1, 1));
        noSuch("cell(0, 4, 0)", x -> x.cell(0, 4, 0, 1));
        noSuch("cell(1, 1, -1)", x -> x.cell(1, 1, -1, 1));
        noSuch("cell(1, 0, 4)", x -> x.cell(1, 0, 4, 1));
        noSuch("cell(1, 4, 0), v wrong too", x -> x.cell(1, 4, 0, 999));
        badArgument("MAP 0, -1", x -> x.cell(0, 0, 0, -1));
        badArgument("MAP 0, 20001", x -> x.cell(0, 3, 3, 20001));
        badArgument("MAP 1, -101", x -> x.cell(1, 0, 0, -101));
        badArgument("MAP 1, 451", x -> x.cell(1, 3, 3, 451));
        onlyOff("cell", x -> x.cell(0, 1, 1, 5));
        EngineControl x = new EngineControl();
        x.cell(0, 3, 3, 0);
        CHECK.same("MAP 0 from 0", x.cell(0, 3, 3, 20000), 0);
        CHECK.same("MAP 0 to 20000", x.cell(0, 3, 3, 5), 20000);
        x.cell(1, 0, 3, -100);
        CHECK.same("MAP 1 from -100", x.cell(1, 0, 3, 450), -100);
        CHECK.same("MAP 1 to 450", x.cell(1, 0, 3, 5), 450);
    }

    private static void numbers() {
        int[][] all = {{1, 8}, {0, 7199}, {100000, 2000000}, {0, 1400}, {1000, 20000}, {1000, 9000}, {1000, 9000},
            {1000, 9000}, {60, 140}, {400, 2000}, {1, 1000}, {0, 50}, {1, 50}, {0, 120}, {50, 140}, {50, 140},
            {0, 50}, {0, 50}, {10, 1000}, {1, 200}, {1, 100}, {0, 1023}, {0, 100}, {0, 1000}};
        int[] atFirst = {4, 600, 500000, 300, 8000, 6500, 3500, 2500, 115, 800, 20, 8, 2, 60, 98, 104, 4, 1, 150, 25,
            10, 600, 20, 20};
        for (int i = 0; i < 24; i++) {
            int k = i;
            badArgument("NUMBER " + k + " below its least", x -> x.calibrate(k, all[k][0] - 1));
            badArgument("NUMBER " + k + " above its greatest", x -> x.calibrate(k, all[k][1] + 1));
            EngineControl x = new EngineControl();
            CHECK.same("NUMBER " + k + " at first", x.calibrate(k, all[k][0]), atFirst[k]);
            CHECK.same("its least", x.calibrate(k, all[k][1]), all[k][0]);
            CHECK.same("its greatest", x.calibrate(k, atFirst[k]), all[k][1]);
        }
        noSuch("calibrate(-1)", x -> x.calibrate(-1, 5));
        noSuch("calibrate(24)", x -> x.calibrate(24, 5));
        onlyOff("calibrate", x -> x.calibrate(5, 7000));
    }

    private static void cuts() {
        badArgument("cut(-2)", x -> x.cut(-2));
        badArgument("cut(1001)", x -> x.cut(1001));
        EngineControl x = new EngineControl();
        CHECK.same("cut(1000) when OFF", x.cut(1000), EngineControl.OFF);
        CHECK.same("cut(NONE) when OFF", x.cut(-1), EngineControl.OFF);
        x.key(true);
        CHECK.same("cut(1000) while ON", x.cut(1000), EngineControl.ON);
        x.key(false);
        CHECK.same("cut(1) in the AFTER-RUN", x.cut(1), EngineControl.AFTER);
        CHECK.same("cut(0)", x.cut(0), EngineControl.OFF);
    }

    private static void wordsAndPages() {
        noSuch("spoil(-1, 0)", x -> x.spoil(-1, 0, 5));
        noSuch("spoil(2, 0)", x -> x.spoil(2, 0, 5));
        noSuch("spoil(0, -1)", x -> x.spoil(0, -1, 5));
        noSuch("spoil(1, 55)", x -> x.spoil(1, 55, 5));
        noSuch("word(-1, 0)", x -> x.word(-1, 0));
        noSuch("word(2, 0)", x -> x.word(2, 0));
        noSuch("word(1, -1)", x -> x.word(1, -1));
        noSuch("word(0, 55)", x -> x.word(0, 55));
        noSuch("tear(-1, 0)", x -> x.tear(-1, 0, 5));
        noSuch("tear(2, 0)", x -> x.tear(2, 0, 5));
        noSuch("tear(0, -1)", x -> x.tear(0, -1, 5));
        noSuch("tear(1, 34)", x -> x.tear(1, 34, 5));
        noSuch("page(-1, 0)", x -> x.page(-1, 0));
        noSuch("page(2, 0)", x -> x.page(2, 0));
        noSuch("page(1, -1)", x -> x.page(1, -1));
        noSuch("page(0, 34)", x -> x.page(0, 34));
        onlyOff("spoil", x -> x.spoil(0, 5, 5));
        onlyOff("tear", x -> x.tear(1, 5, 5));
        EngineControl x = new EngineControl();
        CHECK.same("spoil(0, 54)", x.spoil(0, 54, LEAST), 0);
        CHECK.same("what it was", x.spoil(0, 54, 1), LEAST);
        CHECK.same("spoil(1, 0)", x.spoil(1, 0, GREATEST), 0);
        CHECK.same("word(1, 0)", x.word(1, 0), GREATEST);
        CHECK.same("tear(1, 33)", x.tear(1, 33, LEAST), 0);
        CHECK.same("what it was", x.tear(1, 33, 2), LEAST);
        CHECK.same("page(1, 33)", x.page(1, 33), 2);
    }

    private static void watchAndAnswer() {
        refused("watch when OFF", IllegalStateException.class, RefusedCallsTest::fresh, x -> x.watch(true));
        refused("watch when OFF", IllegalStateException.class, RefusedCallsTest::off, x -> x.watch(false));
        refused("watch in the AFTER-RUN", IllegalStateException.class, RefusedCallsTest::after, x -> x.watch(false));
        refused("answer when OFF", IllegalStateException.class, RefusedCallsTest::off, x -> x.answer(8));
        refused("answer without WATCH", IllegalStateException.class, x -> x.key(true), x -> x.answer(8));
        Twins.Use noMore = x -> {
            x.key(true);
            x.watch(true);
            x.watch(false);
        };
        refused("answer when it is armed no more", IllegalStateException.class, noMore, x -> x.answer(8));
        EngineControl x = new EngineControl();
        after(x);
        int question = (int) x.about(36);
        CHECK.yes("an answer in the AFTER-RUN", x.answer((question * question + 7) % 16));
    }

    private static void testerLine() {
        badArgument("hear(0, -1)", x -> x.hear(0, -1));
        badArgument("hear(0, 1000001)", x -> x.hear(0, 1000001));
        badArgument("ask(0)", x -> x.ask(0, 0x81, 0, 0, 0, 0));
        badArgument("ask(6)", x -> x.ask(6, 0x81, 0, 0, 0, 0));
        badArgument("ask(-1)", x -> x.ask(-1, 0x81, 0, 0, 0, 0));
        noSuch("byteOf(-1)", x -> x.byteOf(-1));
        noSuch("byteOf(600)", x -> x.byteOf(600));
        EngineControl x = Rig.on();
        CHECK.noSuch("OUT is empty", () -> x.byteOf(0));
        CHECK.same("ask(1)", x.ask(1, 0x81, 9, 9, 9, 9), 7);
        CHECK.same("the last byte", x.byteOf(6), 0x83 + 241 + 17 + 0xC1 + 0xEA + 0x8F & 255);
        CHECK.noSuch("one behind it", () -> x.byteOf(7));
        CHECK.same("ask(5)", x.ask(5, 0x3B, 0, 0, 0, 0), 14);
        CHECK.same("drain", x.drain(), 14);
        CHECK.same("drain of nothing", x.drain(), 0);
        CHECK.noSuch("OUT is empty", () -> x.byteOf(0));
        CHECK.same("hear(.., 1000000)", x.hear(0, 1000000), 0);
    }

    private static void tellers() {
        noSuch("about(-1)", x -> x.about(-1));
        noSuch("about(80)", x -> x.about(80));
        noSuch("channel(-1, 0)", x -> x.channel(-1, 0));
        noSuch("channel(10, 0)", x -> x.channel(10, 0));
        noSuch("channel(0, -1)", x -> x.channel(0, -1));
        noSuch("channel(9, 4)", x -> x.channel(9, 4));
        noSuch("cylinder(-1, 0)", x -> x.cylinder(-1, 0));
        noSuch("cylinder(4, 0)", x -> x.cylinder(4, 0));
        noSuch("cylinder(0, -1)", x -> x.cylinder(0, -1));
        noSuch("cylinder(2, 8)", x -> x.cylinder(2, 8));
        noSuch("edge(-1, 0)", x -> x.edge(-1, 0));
        noSuch("edge(200, 0)", x -> x.edge(200, 0));
        noSuch("edge(0, -1)", x -> x.edge(0, -1));
        noSuch("edge(0, 3)", x -> x.edge(0, 3));
        noSuch("trouble(-1, 0)", x -> x.trouble(-1, 0));
        noSuch("trouble(28, 0)", x -> x.trouble(28, 0));
        noSuch("trouble(0, -1)", x -> x.trouble(0, -1));
        noSuch("trouble(27, 7)", x -> x.trouble(27, 7));
        noSuch("frame(-1)", x -> x.frame(-1));
        noSuch("frame(8)", x -> x.frame(8));
        noSuch("sent(-1, 0)", x -> x.sent(-1, 0));
        noSuch("sent(64, 0)", x -> x.sent(64, 0));
        noSuch("sent(0, -1)", x -> x.sent(0, -1));
        noSuch("sent(0, 3)", x -> x.sent(0, 3));
        noSuch("row(-1, 0)", x -> x.row(-1, 0));
        noSuch("row(128, 0)", x -> x.row(128, 0));
        noSuch("row(0, -1)", x -> x.row(0, -1));
        noSuch("row(0, 3)", x -> x.row(0, 3));
        EngineControl x = new EngineControl();
        for (int cylinders = 1; cylinders <= 8; cylinders++) {
            x.calibrate(0, cylinders);
            int behind = cylinders;
            CHECK.yes("the last one", x.cylinder(cylinders - 1, 0) >= 0);
            CHECK.noSuch("one more", () -> x.cylinder(behind, 0));
        }
        CHECK.same("trouble(27, 6)", x.trouble(27, 6), 0);
        CHECK.same("frame(7)", x.frame(7), EngineControl.NONE);
        CHECK.same("about(79)", x.about(79), 0);
        CHECK.same("channel(9, 3)", x.channel(9, 3), 0);
        // Within what it has there, but for the what.
        refused("edge(0, 3)", IndexOutOfBoundsException.class, RefusedCallsTest::used, y -> {
            y.edge(0, 2);
            y.edge(0, 3);
        });
        refused("sent(0, 3)", IndexOutOfBoundsException.class, RefusedCallsTest::used, y -> {
            y.sent(0, 2);
            y.sent(0, 3);
        });
        refused("row(0, 3)", IndexOutOfBoundsException.class, RefusedCallsTest::used, y -> {
            y.row(0, 2);
            y.row(0, 3);
        });
        refused("edge(0, -1)", IndexOutOfBoundsException.class, RefusedCallsTest::used, y -> y.edge(0, -1));
        refused("sent(0, -1)", IndexOutOfBoundsException.class, RefusedCallsTest::used, y -> y.sent(0, -1));
        refused("row(0, -1)", IndexOutOfBoundsException.class, RefusedCallsTest::used, y -> y.row(0, -1));
    }

    private static void carAndBus() {
        noSuch("car(-1)", x -> x.car(-1, 1));
        noSuch("car(2)", x -> x.car(2, 1));
        noSuch("car(2, -1)", x -> x.car(2, -1));
        badArgument("V -1", x -> x.car(0, -1));
        badArgument("V 30001", x -> x.car(0, 30001));
        badArgument("GEAR -1", x -> x.car(1, -1));
        badArgument("GEAR 7", x -> x.car(1, 7));
        noSuch("brake(-1)", x -> x.brake(-1, true));
        noSuch("brake(2)", x -> x.brake(2, true));
        noSuch("press(-1)", x -> x.press(-1));
        noSuch("press(6)", x -> x.press(6));
        badArgument("identifier -1", x -> x.frameComes(-1, 0, 0));
        badArgument("identifier 2048", x -> x.frameComes(2048, 0, 0));
        badArgument("noise(-1)", x -> x.noise(-1));
        badArgument("noise(301)", x -> x.noise(301));
        EngineControl x = new EngineControl();
        CHECK.same("V 30000", x.car(0, 30000), 0);
        CHECK.same("V 0", x.car(0, 0), 30000);
        CHECK.same("GEAR 6", x.car(1, 6), 0);
        CHECK.same("GEAR 0", x.car(1, 0), 6);
        CHECK.no("contact 0 off", x.brake(0, false));
        CHECK.yes("contact 1 on", x.brake(1, true));
        CHECK.no("contact 1 on", x.brake(1, true));
        CHECK.yes("contact 1 off", x.brake(1, false));
        CHECK.no("identifier 0", x.frameComes(0, 0, 0));
        CHECK.no("identifier 2047", x.frameComes(2047, 0, 0));
        CHECK.same("noise when OFF", x.noise(300), 0);
        x.key(true);
        CHECK.same("noise(0)", x.noise(0), 0);
        CHECK.same("noise(300)", x.noise(300), 300);
    }

    private static void lockAndRecorder() {
        onlyOff("lock", x -> x.lock(5));
        onlyOff("lock(0)", x -> x.lock(0));
        noSuch("record, a -1", x -> x.record(1, -1, 0, 0));
        noSuch("record, a 80", x -> x.record(1, 80, 0, 0));
        noSuch("record, b -1", x -> x.record(1, 0, -1, 0));
        noSuch("record, b 80", x -> x.record(1, 0, 80, 0));
        noSuch("record, c -1", x -> x.record(1, 0, 0, -1));
        noSuch("record, c 80", x -> x.record(1, 0, 0, 80));
        noSuch("record, every wrong too", x -> x.record(0, 0, 0, 80));
        badArgument("every 0", x -> x.record(0, 1, 2, 3));
        badArgument("every 101", x -> x.record(101, 1, 2, 3));
        taken("record(1, ..)", x -> x.record(1, 0, 79, 0));
        taken("record(100, ..)", x -> x.record(100, 79, 0, 79));
        EngineControl x = new EngineControl();
        CHECK.same("lock", x.lock(GREATEST), 0);
        CHECK.same("lock", x.lock(LEAST), GREATEST);
        CHECK.same("lock", x.lock(0), LEAST);
    }

    private static void comes() {
        badArgument("comes(-1)", x -> x.comes(-1));
        badArgument("comes(7200)", x -> x.comes(7200));
        refused("comes(-1) in FULL", IllegalArgumentException.class, RefusedCallsTest::used, x -> x.comes(-1));
        refused("comes(7200) in FULL", IllegalArgumentException.class, RefusedCallsTest::used, x -> x.comes(7200));
        refused("comes when LOST", IllegalStateException.class, RefusedCallsTest::fresh, x -> x.comes(0));
        refused("comes when SEEKING", IllegalStateException.class, x -> {
            x.key(true);
            x.turn(2, 1000);
        }, x -> x.comes(7199));
        refused("comes in HALF", IllegalStateException.class, x -> {
            x.key(true);
            x.turn(134, 1000);
        }, x -> x.comes(0));
    }
}
