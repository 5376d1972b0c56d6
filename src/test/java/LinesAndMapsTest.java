/** Promises 12 line, 13 point, 14 lineAt, 15 axis, 16 cell, 17 value, 18 calibrate. */
public final class LinesAndMapsTest {
    private static final Check CHECK = new Check();
    private static final int[] LEAST = {
        1, 0, 100000, 0, 1000, 1000, 1000, 1000, 60, 400, 1, 0, 1, 0, 50, 50, 0, 0, 10, 1, 1, 0, 0, 0};
    private static final int[] GREATEST = {
        8, 7199, 2000000, 1400, 20000, 9000, 9000, 9000, 140, 2000, 1000, 50, 50, 120, 140, 140, 50, 50, 1000,
        200, 100, 1023, 100, 1000};

    public static void main(String[] args) {
        linesAtFirst();
        newLines();
        wrongLines();
        points();
        axes();
        cells();
        mapValues();
        numbers();
        CHECK.end();
    }

    private static void linesAtFirst() {
        EngineControl x = new EngineControl();
        int[] at0 = {0, 0, 0, 0, 10, 140, 140, 0, 0, 0, 1466, 2000, 6000};
        int[] at1023 = {1000, 1000, 1000, 1000, 110, -40, -40, 1100, 200, 1023, 1000, 600, 2500};
        for (int l = 0; l < 13; l++) {
            CHECK.same("lineAt(" + l + ", 0)", x.lineAt(l, 0), at0[l]);
            CHECK.same("lineAt(" + l + ", 1023)", x.lineAt(l, 1023), at1023[l]);
            CHECK.same("far above", x.lineAt(l, Integer.MAX_VALUE), at1023[l]);
        }
        CHECK.same("far below", x.lineAt(10, Integer.MIN_VALUE), 1800);
        CHECK.same("a point", x.lineAt(10, 20), 1300);
        CHECK.same("between", x.lineAt(10, 21), 1295);
        CHECK.same("DEAD", x.lineAt(11, 131), 890);
        CHECK.same("DEAD at its end", x.lineAt(11, 159), 610);
        CHECK.same("DEAD at its end", x.lineAt(11, 160), 600);
        CHECK.same("DWELL", x.lineAt(12, 129), 3550);
        CHECK.same("FLOOR of a falling line", x.lineAt(5, 1), 139);
        CHECK.noSuch("lineAt(13, 0)", () -> x.lineAt(13, 0));
        CHECK.noSuch("lineAt(-1, 0)", () -> x.lineAt(-1, 0));
    }

    private static void newLines() {
        EngineControl x = new EngineControl();
        x.line(10, -10000, 30000, 30000, -10000);
        CHECK.same("the old points are gone", x.lineAt(10, 20), 30000 - 10020);
        CHECK.same("an end", x.lineAt(10, -10001), 30000);
        x.line(0, 0, 0, 3, -10);
        CHECK.same("FLOOR(-10 / 3)", x.lineAt(0, 1), -4);
        CHECK.same("FLOOR(-20 / 3)", x.lineAt(0, 2), -7);
        x.line(12, 80, 100, 160, 30000);
        CHECK.same("LINE 12 from 100 on", x.lineAt(12, 0), 100);
        x.key(true);
        x.cut(0);
        CHECK.same("LINES stay", x.lineAt(0, 1), -4);
    }

    private static void wrongLines() {
        EngineControl x = new EngineControl();
        CHECK.noSuch("line(13, ..)", () -> x.line(13, 0, 0, 1, 1));
        CHECK.noSuch("line(-1, ..)", () -> x.line(-1, 1, 0, 1, 1));
        CHECK.badArgument("x0 not below x1", () -> x.line(0, 1, 0, 1, 1));
        CHECK.badArgument("x0 below -10000", () -> x.line(0, -10001, 0, 1, 1));
        CHECK.badArgument("x1 above 30000", () -> x.line(0, 0, 0, 30001, 1));
        CHECK.badArgument("v0 above 30000", () -> x.line(0, 0, 30001, 1, 1));
        CHECK.badArgument("v1 below -10000", () -> x.line(0, 0, 0, 1, -10001));
        CHECK.badArgument("LINE 12 below 100", () -> x.line(12, 100, 99, 200, 100));
        CHECK.badArgument("LINE 12 below 100", () -> x.line(12, 100, 100, 200, 99));
        CHECK.same("nothing changed", x.lineAt(0, 1023), 1000);
        x.key(true);
        CHECK.badState("line while ON", () -> x.line(0, 0, 0, 1, 1));
        CHECK.badArgument("numbers are looked at first", () -> x.line(0, 1, 0, 1, 1));
        CHECK.noSuch("and the line before", () -> x.line(13, 1, 0, 1, 1));
    }

    private static void points() {
        EngineControl x = new EngineControl();
        CHECK.noSuch("point(13, ..)", () -> x.point(13, 0, 0));
        CHECK.badArgument("x not above the last", () -> x.point(0, 1023, 0));
        CHECK.badArgument("x above 30000", () -> x.point(0, 30001, 0));
        CHECK.badArgument("v above 30000", () -> x.point(0, 1024, 30001));
        CHECK.badArgument("v of LINE 12", () -> x.point(12, 200, 99));
        CHECK.same("a third", x.point(0, 1025, 0), 3);
        CHECK.same("between the new ones", x.lineAt(0, 1024), 500);
        for (int i = 4; i <= 8; i++) {
            CHECK.same("point " + i, x.point(0, 2000 + i, i), i);
        }
        CHECK.same("the last one", x.lineAt(0, 5000), 8);
        CHECK.badState("there are 8", () -> x.point(0, 3000, 0));
        CHECK.badArgument("x is looked at first", () -> x.point(0, 2000, 0));
        CHECK.same("of LINE 12", x.point(12, 161, 100), 4);
        x.line(0, 0, 0, 10, 10);
        CHECK.same("two points again", x.point(0, 20, 0), 3);
        x.key(true);
        CHECK.badState("point while ON", () -> x.point(1, 2000, 0));
    }

    private static void axes() {
        EngineControl x = new EngineControl();
        CHECK.noSuch("axis(2, ..)", () -> x.axis(2, 0, 1, 2, 3, 4));
        CHECK.noSuch("axis(0, 2, ..)", () -> x.axis(0, 2, 1, 2, 3, 4));
        CHECK.noSuch("axis(0, -1, ..)", () -> x.axis(0, -1, 4, 2, 3, 4));
        CHECK.badArgument("below 0", () -> x.axis(0, 0, -1, 2, 3, 4));
        CHECK.badArgument("above 10000", () -> x.axis(0, 0, 1, 2, 3, 10001));
        CHECK.badArgument("b not above a", () -> x.axis(0, 0, 2, 2, 3, 4));
        CHECK.badArgument("c not above b", () -> x.axis(0, 0, 1, 3, 3, 4));
        CHECK.badArgument("d not above c", () -> x.axis(0, 0, 1, 2, 4, 4));
        x.axis(0, 0, 0, 1, 2, 10000);
        CHECK.same("the new axis", x.value(0, 1, 20), 1600);
        CHECK.same("MAP 1 has its own", x.value(1, 1, 20), 100);
        x.axis(0, 1, 0, 10, 20, 30);
        CHECK.same("PRESSURE", x.value(0, 0, 10), 2400);
        x.key(true);
        CHECK.badState("axis while ON", () -> x.axis(0, 0, 1, 2, 3, 4));
        x.cut(0);
        CHECK.same("MAPS stay", x.value(0, 1, 0), 1600);
    }

    private static void cells() {
        EngineControl x = new EngineControl();
        CHECK.noSuch("cell(2, ..)", () -> x.cell(2, 0, 0, 0));
        CHECK.noSuch("cell(0, 4, ..)", () -> x.cell(0, 4, 0, 0));
        CHECK.noSuch("cell(0, 0, 4, ..)", () -> x.cell(0, 0, 4, 0));
        CHECK.noSuch("cell(0, -1, ..)", () -> x.cell(0, -1, 0, -1));
        CHECK.badArgument("MAP 0 below 0", () -> x.cell(0, 0, 0, -1));
        CHECK.badArgument("MAP 0 above 20000", () -> x.cell(0, 0, 0, 20001));
        CHECK.badArgument("MAP 1 below -100", () -> x.cell(1, 0, 0, -101));
        CHECK.badArgument("MAP 1 above 450", () -> x.cell(1, 0, 0, 451));
        CHECK.same("cell", x.cell(0, 3, 2, 20000), 3600);
        CHECK.same("cell", x.cell(0, 3, 2, 0), 20000);
        CHECK.same("cell of MAP 1", x.cell(1, 2, 3, -100), 160);
        CHECK.same("cell of MAP 1", x.cell(1, 2, 3, 450), -100);
        CHECK.same("i is of SPEED", x.value(0, 6000, 80), 0);
        x.key(true);
        CHECK.badState("cell while ON", () -> x.cell(0, 0, 0, 0));
        CHECK.badArgument("v is looked at first", () -> x.cell(0, 0, 0, -1));
    }

    private static void mapValues() {
        EngineControl x = new EngineControl();
        CHECK.noSuch("value(2, ..)", () -> x.value(2, 0, 0));
        CHECK.noSuch("value(-1, ..)", () -> x.value(-1, 0, 0));
        CHECK.same("the low corner", x.value(0, Integer.MIN_VALUE, Integer.MIN_VALUE), 1500);
        CHECK.same("the high corner", x.value(0, Integer.MAX_VALUE, Integer.MAX_VALUE), 4500);
        CHECK.same("a cell", x.value(0, 3000, 80), 3500);
        CHECK.same("halfway by SPEED", x.value(0, 1000, 20), 1550);
        CHECK.same("halfway by PRESSURE", x.value(0, 500, 35), 1950);
        CHECK.same("in the middle", x.value(0, 1000, 35), 2000);
        CHECK.same("the last part", x.value(0, 4500, 90), 1750 + 900 * 5 / 2);
        x.cell(1, 0, 0, -1);
        x.cell(1, 1, 0, 0);
        CHECK.same("FLOOR below 0", x.value(1, 1499, 20), -1);
        CHECK.same("SPARK", x.value(1, 3000, 50), 200);
    }

    private static void numbers() {
        EngineControl x = new EngineControl();
        CHECK.noSuch("calibrate(24, ..)", () -> x.calibrate(24, 0));
        CHECK.noSuch("calibrate(-1, ..)", () -> x.calibrate(-1, 0));
        for (int k = 0; k < 24; k++) {
            int number = k;
            CHECK.badArgument("below the least " + k, () -> x.calibrate(number, LEAST[number] - 1));
            CHECK.badArgument("above the greatest " + k, () -> x.calibrate(number, GREATEST[number] + 1));
            x.calibrate(k, LEAST[k]);
            CHECK.same("the least " + k, x.calibrate(k, GREATEST[k]), LEAST[k]);
        }
        x.key(true);
        CHECK.badState("calibrate while ON", () -> x.calibrate(0, 4));
        CHECK.badArgument("v is looked at first", () -> x.calibrate(0, 9));
        x.cut(0);
        for (int k = 0; k < 24; k++) {
            CHECK.same("NUMBERS stay " + k, x.calibrate(k, LEAST[k]), GREATEST[k]);
        }
    }
}
