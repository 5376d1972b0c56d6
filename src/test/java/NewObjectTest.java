/** Promise 1: a new object. */
public final class NewObjectTest {
    private static final int[] NUMBERS = {
        4, 600, 500000, 300, 8000, 6500, 3500, 2500, 115, 800, 20, 8, 2, 60, 98, 104, 4, 1, 150, 25, 10, 600, 20, 20};
    private static final int[] SUBSTITUTES = {0, 0, 60, 60, 60, 90, 20, 450, 130, 0};

    public static void main(String[] args) {
        Check check = new Check();
        EngineControl x = new EngineControl();
        for (int what = 0; what < 80; what++) {
            long due = 0;
            switch (what) {
                case 33: due = 2; break;     // PRESSURE is its SUBSTITUTE, 60
                case 46: due = 60; break;
                case 47: due = 20; break;
                case 58: due = 1000; break;
                case 59: due = 20; break;
                default: break;
            }
            check.same("about(" + what + ")", x.about(what), due);
        }
        for (int k = 0; k < 24; k++) {
            int number = NUMBERS[k];
            check.same("NUMBER " + k, x.calibrate(k, number), number);
        }
        for (int c = 0; c < 10; c++) {
            check.same("RAW " + c, x.channel(c, 0), 512);
            check.same("VALUE " + c, x.channel(c, 1), SUBSTITUTES[c]);
            check.same("COUNTER " + c, x.channel(c, 2), 0);
            check.same("FAILS " + c, x.channel(c, 3), 0);
        }
        for (int copy = 0; copy < 2; copy++) {
            for (int i = 0; i < 55; i++) {
                check.same("word", x.word(copy, i), 0);
            }
            for (int i = 0; i < 34; i++) {
                check.same("page", x.page(copy, i), 0);
            }
        }
        for (int i = 0; i < 4; i++) {
            for (int j = 0; j < 4; j++) {
                check.same("FUEL cell", x.cell(0, i, j, 0), 1500 + 100 * i + 900 * j);
                check.same("SPARK cell", x.cell(1, i, j, 0), 100 + 60 * i - 20 * j);
            }
        }
        EngineControl y = new EngineControl();
        check.noSuch("OUT is empty", () -> y.byteOf(0));
        check.noSuch("the LOG is empty", () -> y.edge(0, 0));
        check.noSuch("nothing was SENT", () -> y.sent(0, 0));
        check.noSuch("no rows", () -> y.row(0, 0));
        check.same("no FRAME", y.frame(0), EngineControl.NONE);
        check.end();
    }
}
