/** Boundary cases of 'MAPS AND LINES': ends of LINES and axes, points met exactly, rounding, and what stands at first. */
public final class MapBoundsTest {
    private static final int LEAST = Integer.MIN_VALUE;
    private static final int GREATEST = Integer.MAX_VALUE;
    private static final Check CHECK = new Check();
    /** The LINES at first, as x v, x v. */
    private static final int[][] LINES = {
        {0, 0, 1023, 1000}, {0, 0, 1023, 1000}, {0, 0, 1023, 1000}, {0, 0, 1023, 1000}, {0, 10, 1023, 110},
        {0, 140, 1023, -40}, {0, 140, 1023, -40}, {0, 0, 1023, 1100}, {0, 0, 1023, 200}, {0, 0, 1023, 1023},
        {-40, 1800, 20, 1300, 80, 1000}, {80, 2000, 130, 900, 160, 600}, {80, 6000, 130, 3500, 160, 2500}};

    public static void main(String[] args) {
        linesAtFirst();
        outsideALine();
        betweenPointsRoundsDown();
        widestLine();
        eightPoints();
        lineTakesPointsAway();
        lastPointCountsForTheNext();
        dwellFromHundredOn();
        cellsAtFirst();
        axesAtFirst();
        outsideTheAxes();
        pointsOfTheAxes();
        valueRoundsDown();
        axesOfEachMap();
        widestMap();
        CHECK.end();
    }

    private static long between(int[] line, int x) {
        int last = line.length - 2;
        if (x <= line[0]) {
            return line[1];
        }
        if (x >= line[last]) {
            return line[last + 1];
        }
        int i = 0;
        while (x >= line[i + 2]) {
            i += 2;
        }
        return line[i + 1] + Math.floorDiv((long) (line[i + 3] - line[i + 1]) * (x - line[i]), line[i + 2] - line[i]);
    }

    // Every LINE at first, at its points, on both sides of them, and on its way.
    private static void linesAtFirst() {
        for (int line = 0; line < LINES.length; line++) {
            EngineControl x = new EngineControl();
            int[] points = LINES[line];
            for (int i = 0; i < points.length; i += 2) {
                for (int at = points[i] - 1; at <= points[i] + 1; at++) {
                    CHECK.same("LINE " + line + " at " + at, x.lineAt(line, at), between(points, at));
                }
                CHECK.same("LINE " + line + ", a point", x.lineAt(line, points[i]), points[i + 1]);
            }
            for (int at = -50; at < 1100; at += 7) {
                CHECK.same("LINE " + line + " at " + at, x.lineAt(line, at), between(points, at));
            }
        }
    }

    // "its value at x is that of the nearest end outside", "(any number)"
    private static void outsideALine() {
        EngineControl x = new EngineControl();
        x.line(4, -10000, 30000, 30000, -10000);
        CHECK.same("the least", x.lineAt(4, LEAST), 30000);
        CHECK.same("-10001", x.lineAt(4, -10001), 30000);
        CHECK.same("-10000", x.lineAt(4, -10000), 30000);
        CHECK.same("-9999", x.lineAt(4, -9999), 29999);
        CHECK.same("29999", x.lineAt(4, 29999), -9999);
        CHECK.same("30000", x.lineAt(4, 30000), -10000);
        CHECK.same("30001", x.lineAt(4, 30001), -10000);
        CHECK.same("the greatest", x.lineAt(4, GREATEST), -10000);
    }

    // "v0 + FLOOR((v1 - v0) * (x - x0) / (x1 - x0)) between two"
    private static void betweenPointsRoundsDown() {
        EngineControl x = new EngineControl();
        x.line(0, 0, 10, 3, 9);
        CHECK.same("-1 / 3", x.lineAt(0, 1), 9);
        CHECK.same("-2 / 3", x.lineAt(0, 2), 9);
        x.line(0, -3, -10, 0, -9);
        CHECK.same("1 / 3", x.lineAt(0, -2), -10);
        CHECK.same("2 / 3", x.lineAt(0, -1), -10);
        CHECK.same("3 / 3", x.lineAt(0, 0), -9);
    }

    private static void widestLine() {
        EngineControl x = new EngineControl();
        x.line(9, -10000, -10000, 30000, 30000);
        CHECK.same("on its way", x.lineAt(9, 29999), 29999);
        CHECK.same("on its way", x.lineAt(9, 12345), 12345);
        x.line(9, 29999, -10000, 30000, 30000);
        CHECK.same("the narrowest", x.lineAt(9, 29999), -10000);
        CHECK.same("the narrowest", x.lineAt(9, 30000), 30000);
    }

    // "A LINE has 2 to 8 points"
    private static void eightPoints() {
        EngineControl x = new EngineControl();
        x.line(7, 0, 0, 10, 100);
        for (int i = 2; i < 8; i++) {
            CHECK.same("points", x.point(7, 10 * i, i % 2 == 0 ? 0 : 100), i + 1);
        }
        CHECK.badState("a ninth", () -> x.point(7, 80, 0));
        for (int i = 0; i < 8; i++) {
            CHECK.same("point " + i, x.lineAt(7, 10 * i), i % 2 == 0 ? 0 : 100);
            CHECK.same("behind point " + i, x.lineAt(7, 10 * i + 1), i == 7 ? 100 : i % 2 == 0 ? 10 : 90);
        }
        CHECK.same("outside", x.lineAt(7, 71), 100);
        CHECK.same("the refused one is not there", x.lineAt(7, 80), 100);
    }

    // "A LINE has these two points alone."
    private static void lineTakesPointsAway() {
        EngineControl x = new EngineControl();
        x.line(10, 0, 5, 1, 6);
        CHECK.same("its third point is gone", x.lineAt(10, 80), 6);
        CHECK.same("its first point is gone", x.lineAt(10, -40), 5);
        CHECK.same("a third again", x.point(10, 2, 7), 3);
    }

    // "or x not above that of the last point"
    private static void lastPointCountsForTheNext() {
        EngineControl x = new EngineControl();
        CHECK.badArgument("80", () -> x.point(10, 80, 1));
        CHECK.same("81", x.point(10, 81, 1), 4);
        CHECK.badArgument("81", () -> x.point(10, 81, 1));
        CHECK.same("82", x.point(10, 82, 1), 5);
        CHECK.same("30000", x.point(10, 30000, -10000), 6);
        CHECK.same("its value", x.lineAt(10, 30000), -10000);
    }

    private static void dwellFromHundredOn() {
        EngineControl x = new EngineControl();
        x.line(12, 100, 100, 101, 100);
        CHECK.same("v 100", x.lineAt(12, 0), 100);
        CHECK.badArgument("v 99", () -> x.point(12, 102, 99));
        CHECK.same("v 100", x.point(12, 102, 100), 3);
        CHECK.same("v 30000", x.point(12, 103, 30000), 4);
        x.line(11, 100, 99, 101, -10000);
        CHECK.same("another LINE", x.lineAt(11, 101), -10000);
    }

    private static final int[] SPEEDS = {500, 1500, 3000, 6000};
    private static final int[] PRESSURES = {20, 50, 80, 100};

    // "cell i (of SPEED), j of MAP 0 is 1500 + 100 i + 900 j, of MAP 1 100 + 60 i - 20 j"
    private static void cellsAtFirst() {
        EngineControl x = new EngineControl();
        for (int i = 0; i < 4; i++) {
            for (int j = 0; j < 4; j++) {
                CHECK.same("MAP 0", x.value(0, SPEEDS[i], PRESSURES[j]), 1500 + 100 * i + 900 * j);
                CHECK.same("MAP 1", x.value(1, SPEEDS[i], PRESSURES[j]), 100 + 60 * i - 20 * j);
                CHECK.same("cell of MAP 0", x.cell(0, i, j, 7), 1500 + 100 * i + 900 * j);
                CHECK.same("cell of MAP 1", x.cell(1, i, j, 7), 100 + 60 * i - 20 * j);
            }
        }
    }

    private static long valueDue(int[] cells, int[] xs, int[] ys, int x, int y) {
        int u = Math.max(xs[0], Math.min(xs[3], x));
        int w = Math.max(ys[0], Math.min(ys[3], y));
        int i = 2;
        while (i > 0 && xs[i] > u) {
            i--;
        }
        int j = 2;
        while (j > 0 && ys[j] > w) {
            j--;
        }
        long a = u - xs[i];
        long b = xs[i + 1] - u;
        long c = w - ys[j];
        long d = ys[j + 1] - w;
        long sum = cells[4 * i + j] * b * d + cells[4 * i + 4 + j] * a * d + cells[4 * i + j + 1] * b * c
            + cells[4 * i + 5 + j] * a * c;
        return Math.floorDiv(sum, (a + b) * (c + d));
    }

    /** Cells that differ enough to show each point of both axes. */
    private static int[] steep(EngineControl x, int map) {
        int[] cells = new int[16];
        for (int k = 0; k < 16; k++) {
            cells[k] = map == 0 ? 20000 * (k * 7 % 16) / 15 : -100 + 550 * (k * 7 % 16) / 15;
            x.cell(map, k / 4, k % 4, cells[k]);
        }
        return cells;
    }

    private static void axesAtFirst() {
        for (int map = 0; map < 2; map++) {
            EngineControl x = new EngineControl();
            int[] cells = steep(x, map);
            for (int i = 0; i < 4; i++) {
                for (int j = 0; j < 4; j++) {
                    for (int near = -1; near <= 1; near++) {
                        int speed = SPEEDS[i] + near;
                        int pressure = PRESSURES[j] - near;
                        CHECK.same("MAP " + map + " at " + speed + ", " + pressure, x.value(map, speed, pressure),
                            valueDue(cells, SPEEDS, PRESSURES, speed, pressure));
                    }
                }
            }
            for (int speed = 400; speed < 6200; speed += 97) {
                CHECK.same("MAP " + map, x.value(map, speed, 63), valueDue(cells, SPEEDS, PRESSURES, speed, 63));
            }
            for (int pressure = 15; pressure < 105; pressure++) {
                CHECK.same("MAP " + map, x.value(map, 2222, pressure), valueDue(cells, SPEEDS, PRESSURES, 2222, pressure));
            }
        }
    }

    // "both are cut to their axes' ends", "(any numbers)"
    private static void outsideTheAxes() {
        EngineControl x = new EngineControl();
        CHECK.same("below both", x.value(0, LEAST, LEAST), 1500);
        CHECK.same("above both", x.value(0, GREATEST, GREATEST), 4500);
        CHECK.same("below, above", x.value(0, LEAST, GREATEST), 4200);
        CHECK.same("above, below", x.value(0, GREATEST, LEAST), 1800);
        CHECK.same("just below", x.value(1, 499, 19), 100);
        CHECK.same("just above", x.value(1, 6001, 101), 220);
        CHECK.same("one end alone", x.value(1, 6001, 20), 280);
        CHECK.same("one end alone", x.value(1, 500, 101), 40);
    }

    // "with i, j the greatest (2 at most) whose points are not above x, y"
    private static void pointsOfTheAxes() {
        EngineControl x = new EngineControl();
        Rig.everyCell(x, 0, 0);
        x.axis(0, 0, 0, 1, 9999, 10000);
        x.axis(0, 1, 0, 1, 9999, 10000);
        for (int i = 0; i < 4; i++) {
            for (int j = 0; j < 4; j++) {
                x.cell(0, i, j, 1000 * (4 * i + j));
            }
        }
        int[] ends = {0, 1, 9999, 10000};
        for (int i = 0; i < 4; i++) {
            for (int j = 0; j < 4; j++) {
                CHECK.same("at a point", x.value(0, ends[i], ends[j]), 1000 * (4 * i + j));
            }
        }
    }

    // "FLOOR((..) / ((a + b) (c + d)))"
    private static void valueRoundsDown() {
        EngineControl x = new EngineControl();
        x.axis(1, 0, 0, 3, 6, 9);
        x.axis(1, 1, 0, 1, 2, 3);
        Rig.everyCell(x, 1, 0);
        x.cell(1, 1, 0, -1);
        CHECK.same("-1 / 3", x.value(1, 1, 0), -1);
        CHECK.same("-2 / 3", x.value(1, 2, 0), -1);
        x.cell(1, 1, 0, 1);
        CHECK.same("1 / 3", x.value(1, 1, 0), 0);
        CHECK.same("2 / 3", x.value(1, 2, 0), 0);
        CHECK.same("3 / 3", x.value(1, 3, 0), 1);
    }

    // Each of the four points of each axis of each MAP is the one that was told.
    private static void axesOfEachMap() {
        for (int map = 0; map < 2; map++) {
            EngineControl x = new EngineControl();
            int[] xs = {10, 200, 3000, 4000};
            int[] ys = {7, 70, 700, 7000};
            x.axis(map, 0, xs[0], xs[1], xs[2], xs[3]);
            x.axis(map, 1, ys[0], ys[1], ys[2], ys[3]);
            int[] cells = steep(x, map);
            for (int i = 0; i < 4; i++) {
                for (int j = 0; j < 4; j++) {
                    CHECK.same("MAP " + map, x.value(map, xs[i], ys[j]), cells[4 * i + j]);
                    CHECK.same("MAP " + map, x.value(map, xs[i] + 1, ys[j] + 1),
                        valueDue(cells, xs, ys, xs[i] + 1, ys[j] + 1));
                }
            }
            int[] others = steep(x, 1 - map);
            CHECK.same("the other MAP", x.value(1 - map, 500, 20), others[0]);
            CHECK.same("the other MAP", x.value(1 - map, 1000, 35), valueDue(others, SPEEDS, PRESSURES, 1000, 35));
        }
    }

    // No number on the way is too large.
    private static void widestMap() {
        EngineControl x = new EngineControl();
        x.axis(0, 0, 0, 1, 2, 10000);
        x.axis(0, 1, 0, 1, 2, 10000);
        Rig.everyCell(x, 0, 20000);
        CHECK.same("20000", x.value(0, 5000, 5000), 20000);
        CHECK.same("20000", x.value(0, 9999, 3), 20000);
    }
}
