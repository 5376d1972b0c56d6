/** Boundary cases of THE BOOK, and of a MAP that is LOADING. */
public final class BookBoundsTest {
    private static final Check CHECK = new Check();

    public static void main(String[] args) {
        loadingOrder();
        placesInTurn();
        cellsOfMapZero();
        cellsOfMapOne();
        notAllCame();
        wrongSums();
        sumsThatWrap();
        loadingBeginsAnew();
        loadingEnds();
        bothMapsAreWritten();
        validCells();
        validSums();
        headsOfTheBook();
        headWraps();
        bootTakesTheCells();
        CHECK.end();
    }

    private static EngineControl open() {
        EngineControl x = Rig.on();
        Rig.open(x);
        return x;
    }

    private static String place(EngineControl x, int place, int v) {
        return Rig.ask(x, 0x36, place, v >> 8 & 255, v & 255);
    }

    private static String end(EngineControl x, int sum) {
        return Rig.ask(x, 0x37, sum >> 8 & 255, sum & 255);
    }

    private static void fill(EngineControl x, int map, int v) {
        CHECK.same("34h", Rig.ask(x, 0x34, map), "74 0" + map);
        for (int i = 0; i < 16; i++) {
            CHECK.same("36h", place(x, i, v), String.format("76 %02X", i));
        }
    }

    // "34h map (2): 33h: it is not OPEN; 22h: STATE is not 0; 31h: no such MAP"
    private static void loadingOrder() {
        EngineControl closed = Rig.on();
        Rig.ask(closed, 0x81);
        closed.tooth(1);
        CHECK.same("33h first", Rig.ask(closed, 0x34, 9), "7F 34 33");
        EngineControl turning = open();
        turning.tooth(1);
        CHECK.same("22h then", Rig.ask(turning, 0x34, 9), "7F 34 22");
        CHECK.same("22h, though the MAP is there", Rig.ask(turning, 0x34, 0), "7F 34 22");
        CHECK.same("nothing is LOADING", turning.about(71), 0);
        EngineControl x = open();
        CHECK.same("MAP 2", Rig.ask(x, 0x34, 2), "7F 34 31");
        CHECK.same("MAP 255", Rig.ask(x, 0x34, 255), "7F 34 31");
        CHECK.same("nothing is LOADING", x.about(71), 0);
        CHECK.same("36h", place(x, 0, 1), "7F 36 24");
        CHECK.same("37h", end(x, 0), "7F 37 24");
        CHECK.same("MAP 0", Rig.ask(x, 0x34, 0), "74 00");
        CHECK.same("LOADING", x.about(71), 1);
        CHECK.same("MAP 1", Rig.ask(x, 0x34, 1), "74 01");
        CHECK.same("LOADING", x.about(71), 2);
        CHECK.same("MAP 2", Rig.ask(x, 0x34, 2), "7F 34 31");
        CHECK.same("MAP 1 is LOADING yet", x.about(71), 2);
    }

    // "31h: it is not the place at hand (0 .. 15)"
    private static void placesInTurn() {
        EngineControl x = open();
        Rig.ask(x, 0x34, 0);
        CHECK.same("place 1 first", place(x, 1, 5), "7F 36 31");
        CHECK.same("place 255", place(x, 255, 5), "7F 36 31");
        CHECK.same("place 0", place(x, 0, 5), "76 00");
        CHECK.same("place 0 again", place(x, 0, 5), "7F 36 31");
        CHECK.same("place 2", place(x, 2, 5), "7F 36 31");
        for (int i = 1; i < 16; i++) {
            CHECK.same("place " + i, place(x, i, 5), String.format("76 %02X", i));
        }
        CHECK.same("place 16", place(x, 16, 5), "7F 36 31");
        CHECK.same("place 15 again", place(x, 15, 5), "7F 36 31");
        CHECK.same("LOADING yet", x.about(71), 1);
        CHECK.same("the MAP is as before", x.value(0, 500, 20), 1500);
        CHECK.same("all came", end(x, 80), "77");
        CHECK.same("LOADING no more", x.about(71), 0);
        CHECK.same("the MAP's cells", x.value(0, 500, 20), 5);
    }

    // "or the number (16 bits with sign, the higher byte first) is no cell of that MAP"
    private static void cellsOfMapZero() {
        int[][] all = {{-1, 0}, {0, 1}, {20000, 1}, {20001, 0}, {32767, 0}, {-32768, 0}, {32768, 0}};
        for (int[] one : all) {
            EngineControl x = open();
            Rig.ask(x, 0x34, 0);
            CHECK.same("MAP 0, " + one[0], place(x, 0, one[0]), one[1] == 1 ? "76 00" : "7F 36 31");
            CHECK.same("the place at hand", place(x, one[1], 7), one[1] == 1 ? "76 01" : "76 00");
        }
    }

    private static void cellsOfMapOne() {
        int[][] all = {{-101, 0}, {-100, 1}, {-1, 1}, {0, 1}, {450, 1}, {451, 0}, {20000, 0}, {-32768, 0}};
        for (int[] one : all) {
            EngineControl x = open();
            Rig.ask(x, 0x34, 1);
            CHECK.same("MAP 1, " + one[0], place(x, 0, one[0]), one[1] == 1 ? "76 00" : "7F 36 31");
        }
    }

    // "24h: nothing is LOADING, or not all 16 came"
    private static void notAllCame() {
        EngineControl x = open();
        Rig.ask(x, 0x34, 1);
        CHECK.same("none came", end(x, 0), "7F 37 24");
        for (int i = 0; i < 15; i++) {
            place(x, i, 10);
        }
        CHECK.same("15 came", end(x, 150), "7F 37 24");
        CHECK.same("LOADING yet", x.about(71), 2);
        CHECK.same("the 16th", place(x, 15, 10), "76 0F");
        CHECK.same("all came", end(x, 160), "77");
        CHECK.same("once", end(x, 160), "7F 37 24");
        CHECK.same("WRITTEN", x.about(48), 35);
    }

    // "72h: they are not the sum of these 16 numbers modulo 65536, and nothing is LOADING any more"
    private static void wrongSums() {
        for (int off : new int[] {-1, 1, 256, 32768}) {
            EngineControl x = open();
            fill(x, 0, 100);
            CHECK.same("off by " + off, end(x, 1600 + off), "7F 37 72");
            CHECK.same("nothing is LOADING", x.about(71), 0);
            CHECK.same("nothing is WRITTEN", x.about(48), 0);
            CHECK.same("the MAP is as before", x.value(0, 500, 20), 1500);
            CHECK.same("24h then", end(x, 1600), "7F 37 24");
        }
    }

    private static void sumsThatWrap() {
        EngineControl odd = open();
        Rig.ask(odd, 0x34, 0);
        for (int i = 0; i < 16; i++) {
            place(odd, i, i == 15 ? 101 : 100);
        }
        CHECK.same("1601", end(odd, 1601), "77");
        EngineControl x = open();
        fill(x, 0, 20000);
        CHECK.same("320000 modulo 65536", end(x, 320000 % 65536), "77");
        CHECK.same("VALUE", x.value(0, 3000, 80), 20000);
        EngineControl y = open();
        fill(y, 1, -100);
        CHECK.same("-1600 modulo 65536", end(y, -1600), "77");
        CHECK.same("VALUE", y.value(1, 3000, 80), -100);
        CHECK.same("in the BOOK", y.page(0, 17), -100);
    }

    // "that MAP is LOADING, from place 0 on"
    private static void loadingBeginsAnew() {
        EngineControl x = open();
        Rig.ask(x, 0x34, 0);
        for (int i = 0; i < 10; i++) {
            place(x, i, 9999);
        }
        Rig.ask(x, 0x34, 0);
        CHECK.same("place 10", place(x, 10, 1), "7F 36 31");
        for (int i = 0; i < 16; i++) {
            CHECK.same("from 0 on", place(x, i, i), String.format("76 %02X", i));
        }
        CHECK.same("sum", end(x, 120), "77");
        for (int i = 0; i < 16; i++) {
            CHECK.same("word", x.page(0, 1 + i), i);
        }
    }

    // "Nothing is LOADING, either, when it is not OPEN any more."
    private static void loadingEnds() {
        for (int way = 0; way < 4; way++) {
            EngineControl x = open();
            fill(x, 0, 10);
            CHECK.same("LOADING", x.about(71), 1);
            if (way == 0) {
                Rig.ask(x, 0x82);
            } else if (way == 1) {
                Rig.ask(x, 0x81);
            } else if (way == 2) {
                Rig.loops(x, 500);
            } else {
                x.cut(0);
                x.key(true);
            }
            CHECK.same("LOADING, way " + way, x.about(71), 0);
            Rig.open(x);
            CHECK.same("it stays so", end(x, 160), way == 3 || way < 3 ? "7F 37 24" : "");
        }
    }

    // "the BOOK is WRITTEN (with both MAPS as they are)"
    private static void bothMapsAreWritten() {
        EngineControl x = new EngineControl();
        x.cell(0, 3, 3, 4321);
        x.cell(1, 0, 0, -77);
        x.cell(1, 3, 3, 321);
        x.key(true);
        Rig.open(x);
        fill(x, 1, 9);
        CHECK.same("77h", end(x, 144), "77");
        CHECK.same("HEAD", x.about(70), 1);
        CHECK.same("word 16 is the last cell of MAP 0", x.page(0, 16), 4321);
        CHECK.same("word 1", x.page(0, 1), 1500);
        CHECK.same("word 17", x.page(0, 17), 9);
        CHECK.same("word 32", x.page(0, 32), 9);
        int sum = 1;
        for (int i = 1; i <= 32; i++) {
            sum += (i + 1) * x.page(0, i);
        }
        CHECK.same("word 33", x.page(0, 33), sum);
        fill(x, 0, 8);
        CHECK.same("77h", end(x, 128), "77");
        CHECK.same("the other copy", x.page(1, 0), 2);
        CHECK.same("MAP 0", x.page(1, 16), 8);
        CHECK.same("MAP 1 as it is", x.page(1, 17), 9);
        CHECK.same("HEAD", x.about(70), 2);
        CHECK.same("WRITTEN", x.about(48), 70);
        x.cut(0);
        CHECK.same("MAPS stay", x.value(0, 500, 20), 8);
        CHECK.same("the BOOK stays", x.about(70), 2);
    }

    /** A copy of the BOOK with this HEAD, 7 in all cells but one. */
    private static void book(EngineControl x, int copy, int head, int word, int v) {
        int sum = head;
        for (int i = 1; i <= 32; i++) {
            int cell = i == word ? v : 7;
            x.tear(copy, i, cell);
            sum += (i + 1) * cell;
        }
        x.tear(copy, 0, head);
        x.tear(copy, 33, sum);
    }

    // "VALID (all cells are as those of their MAP can be, too)"
    private static void validCells() {
        int[][] all = {{1, -1, 0}, {1, 0, 1}, {1, 20000, 1}, {1, 20001, 0}, {16, -1, 0}, {16, 0, 1}, {16, 20000, 1},
            {16, 20001, 0}, {17, -101, 0}, {17, -100, 1}, {17, 450, 1}, {17, 451, 0}, {32, -101, 0}, {32, -100, 1},
            {32, 450, 1}, {32, 451, 0}};
        for (int[] one : all) {
            EngineControl x = new EngineControl();
            book(x, 0, 5, one[0], one[1]);
            CHECK.same("word " + one[0] + " is " + one[1], x.about(70), one[2] == 1 ? 5 : 0);
            x.key(true);
            CHECK.same("taken over", x.value(0, 1500, 50), one[2] == 1 ? 7 : 2500);
        }
    }

    private static void validSums() {
        for (int i = 1; i <= 32; i++) {
            EngineControl x = new EngineControl();
            book(x, 1, 3, i, 100);
            CHECK.same("word " + i, x.about(70), 3);
            x.tear(1, i, 101);
            CHECK.same("word " + i + " torn", x.about(70), 0);
        }
        int[][] heads = {{0, 0}, {-1, 0}, {1, 1}, {Integer.MAX_VALUE, 1}, {Integer.MIN_VALUE, 0}};
        for (int[] one : heads) {
            EngineControl x = new EngineControl();
            book(x, 0, one[0], 1, 7);
            CHECK.same("HEAD " + one[0], x.about(70), one[1] == 1 ? one[0] : 0);
            x.tear(0, 33, x.page(0, 33) + 1);
            CHECK.same("sum off by 1", x.about(70), 0);
        }
    }

    // "THE valid copy": the greater HEAD, of two alike copy 0
    private static void headsOfTheBook() {
        int[][] all = {{5, 6, 1}, {6, 5, 0}, {5, 5, 0}, {5, 0, 0}, {0, 5, 1}};
        for (int[] one : all) {
            EngineControl x = new EngineControl();
            book(x, 0, one[0], 1, 1000);
            book(x, 1, one[1], 1, 1001);
            CHECK.same("HEAD", x.about(70), one[one[2]]);
            x.key(true);
            CHECK.same("cell 0, 0", x.value(0, 0, 0), 1000 + one[2]);
            Rig.open(x);
            fill(x, 1, 9);
            CHECK.same("77h", end(x, 144), "77");
            CHECK.same("the other copy is WRITTEN", x.page(1 - one[2], 0), one[one[2]] + 1);
            CHECK.same("with MAP 0 as it is", x.page(1 - one[2], 1), 1000 + one[2]);
        }
    }

    private static void headWraps() {
        EngineControl x = new EngineControl();
        book(x, 0, Integer.MAX_VALUE, 1, 1000);
        x.key(true);
        Rig.open(x);
        fill(x, 1, 9);
        CHECK.same("77h", end(x, 144), "77");
        CHECK.same("the new HEAD", x.page(1, 0), Integer.MIN_VALUE);
        CHECK.same("not VALID", x.about(70), Integer.MAX_VALUE);
        CHECK.same("the MAP is this one now", x.value(1, 0, 0), 9);
        x.cut(0);
        x.key(true);
        CHECK.same("and the valid copy's behind BOOT", x.value(1, 0, 0), 7);
    }

    // "At BOOT the cells of both MAPS are those of the valid copy, if there is one."
    private static void bootTakesTheCells() {
        EngineControl x = new EngineControl();
        int sum = 9;
        for (int i = 1; i <= 32; i++) {
            int cell = i <= 16 ? 1000 + i : 100 + i;
            x.tear(1, i, cell);
            sum += (i + 1) * cell;
        }
        x.tear(1, 0, 9);
        x.tear(1, 33, sum);
        x.key(true);
        x.cut(0);
        for (int k = 0; k < 16; k++) {
            CHECK.same("MAP 0, " + k, x.cell(0, k / 4, k % 4, 5), 1001 + k);
            CHECK.same("MAP 1, " + k, x.cell(1, k / 4, k % 4, 5), 117 + k);
        }
        x.key(true);
        x.key(false);
        Rig.loops(x, 100);
        CHECK.same("taken over again", x.cell(0, 0, 0, 6), 1001);
        x.tear(1, 0, 0);
        x.key(true);
        CHECK.same("none is valid: as they are", x.value(0, 0, 0), 6);
    }
}
