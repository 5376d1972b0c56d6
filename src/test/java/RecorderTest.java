/** Promises 45 record, 46 row. */
public final class RecorderTest {
    private static final Check CHECK = new Check();

    public static void main(String[] args) {
        wrongInputs();
        rows();
        kept();
        trigger();
        triggerOnce();
        staying();
        CHECK.end();
    }

    private static void wrongInputs() {
        EngineControl x = new EngineControl();
        CHECK.noSuch("record(1, -1, 0, 0)", () -> x.record(1, -1, 0, 0));
        CHECK.noSuch("record(1, 0, 80, 0)", () -> x.record(1, 0, 80, 0));
        CHECK.noSuch("record(1, 0, 0, 80)", () -> x.record(1, 0, 0, 80));
        CHECK.noSuch("the three are looked at first", () -> x.record(0, 0, 0, -1));
        CHECK.badArgument("record(0, ..)", () -> x.record(0, 0, 0, 0));
        CHECK.badArgument("record(101, ..)", () -> x.record(101, 0, 0, 0));
        CHECK.same("it does not RUN", x.about(79), 0);
        CHECK.noSuch("row(0, 0)", () -> x.row(0, 0));
        x.record(1, 0, 79, 78);
        CHECK.same("it RUNS", x.about(79), 1);
        CHECK.noSuch("no rows", () -> x.row(0, 0));
        x.key(true);
        x.pass(10000);
        CHECK.same("TIME", x.row(0, 0), 10000);
        CHECK.same("RUNS", x.row(0, 1), 1);
        CHECK.same("rows before this one", x.row(0, 2), 0);
        CHECK.noSuch("row(0, 3)", () -> x.row(0, 3));
        CHECK.noSuch("row(0, -1)", () -> x.row(0, -1));
        CHECK.noSuch("row(1, 0)", () -> x.row(1, 0));
        CHECK.noSuch("row(-1, 0)", () -> x.row(-1, 0));
    }

    private static void rows() {
        EngineControl x = new EngineControl();
        x.record(3, 11, 50, 0);
        x.key(true);
        x.car(0, 77);
        x.pass(20000);
        CHECK.same("none before LOOP 3", x.about(78), 0);
        x.pass(80000);
        CHECK.same("LOOPS 3, 6, 9", x.about(78), 3);
        for (int i = 0; i < 3; i++) {
            CHECK.same("LOOPS", x.row(i, 0), 3 * i + 3);
            CHECK.same("V", x.row(i, 1), 77);
            CHECK.same("TIME", x.row(i, 2), 30000 * i + 30000);
        }
        x.record(100, 1, 1, 1);
        CHECK.same("told anew it has no rows", x.about(78), 0);
        x.pass(890000);
        CHECK.same("LOOP 99", x.about(78), 0);
        x.pass(10000);
        CHECK.same("LOOP 100", x.row(0, 0), 1);
    }

    private static void kept() {
        EngineControl x = new EngineControl();
        x.record(1, 11, 78, 11);
        x.key(true);
        x.pass(1280000);
        CHECK.same("128 rows", x.about(78), 128);
        CHECK.same("the oldest", x.row(0, 0), 1);
        x.pass(50000);
        CHECK.same("128 at most", x.about(78), 128);
        CHECK.same("the oldest", x.row(0, 0), 6);
        CHECK.same("the latest", x.row(127, 0), 133);
        CHECK.noSuch("row(128, 0)", () -> x.row(128, 0));
    }

    private static void build(EngineControl x, String text) {
        for (int i = 0; i < text.length(); i++) {
            x.unit(text.charAt(i));
        }
        x.build();
    }

    private static void trigger() {
        EngineControl x = new EngineControl();
        build(x, "d=n>9?5:0");
        x.record(2, 11, 75, 79);
        x.key(true);
        x.pass(100000);
        CHECK.same("d is told before the row", x.row(4, 1), 5);
        x.pass(1270000);
        CHECK.same("63 rows more", x.about(78), 5 + 63);
        CHECK.same("it RUNS", x.about(79), 1);
        x.pass(10000);
        CHECK.same("64 rows more", x.about(78), 5 + 64);
        CHECK.same("it does not RUN any more", x.about(79), 0);
        x.pass(100000);
        CHECK.same("no more rows", x.about(78), 69);
        CHECK.same("the last one", x.row(68, 0), 138);
        CHECK.same("it was running then", x.row(68, 2), 1);
        x.record(1, 11, 75, 79);
        x.pass(10000);
        CHECK.same("since it was told d counts as 0 before", x.about(79), 1);
        x.pass(640000);
        CHECK.same("64 rows more", x.about(78), 65);
        CHECK.same("it does not RUN any more", x.about(79), 0);
    }

    private static void triggerOnce() {
        EngineControl x = new EngineControl();
        build(x, "d=n/40-n/80*2");
        x.record(1, 11, 0, 0);
        x.key(true);
        x.pass(1030000);
        CHECK.same("it RUNS", x.about(79), 1);
        x.pass(10000);
        CHECK.same("d in LOOP 40 counts, 80 and 120 do not", x.about(79), 0);
        CHECK.same("rows", x.about(78), 104);
        EngineControl y = new EngineControl();
        y.record(1, 11, 0, 0);
        y.key(true);
        y.pass(2000000);
        CHECK.same("without d it RUNS", y.about(79), 1);
    }

    private static void staying() {
        EngineControl x = new EngineControl();
        x.record(1, 11, 69, 0);
        x.key(true);
        x.pass(30000);
        x.cut(0);
        CHECK.same("rows stay", x.about(78), 3);
        CHECK.same("it RUNS", x.about(79), 1);
        x.pass(100000);
        CHECK.same("no LOOPS, no rows", x.about(78), 3);
        x.key(true);
        x.pass(10000);
        CHECK.same("behind them", x.row(3, 0), 1);
        CHECK.same("BOOTS", x.row(3, 1), 2);
        EngineControl y = new EngineControl();
        build(y, "d=1");
        y.record(10, 11, 0, 0);
        y.key(true);
        y.pass(10000);
        y.cut(0);
        y.key(true);
        y.pass(2000000);
        y.pass(2000000);
        y.pass(2000000);
        y.pass(390000);
        CHECK.same("MORE stays behind OFF", y.about(78), 63);
        y.pass(10000);
        CHECK.same("64 rows", y.about(78), 64);
        CHECK.same("it does not RUN any more", y.about(79), 0);
    }
}
