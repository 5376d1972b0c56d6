/** Promises 41 page, 42 tear: the BOOK, and loading it by the tester. */
public final class BookTest {
    private static final Check CHECK = new Check();

    public static void main(String[] args) {
        wrongInputs();
        validity();
        loading();
        refusals();
        cutWhileWriting();
        CHECK.end();
    }

    private static void wrongInputs() {
        EngineControl x = new EngineControl();
        CHECK.noSuch("page(2, 0)", () -> x.page(2, 0));
        CHECK.noSuch("page(-1, 0)", () -> x.page(-1, 0));
        CHECK.noSuch("page(0, 34)", () -> x.page(0, 34));
        CHECK.noSuch("page(0, -1)", () -> x.page(0, -1));
        CHECK.noSuch("tear(2, 0, 0)", () -> x.tear(2, 0, 0));
        CHECK.noSuch("tear(0, 34, 0)", () -> x.tear(0, 34, 0));
        CHECK.same("tear", x.tear(1, 33, -5), 0);
        CHECK.same("tear", x.tear(1, 33, 6), -5);
        CHECK.same("page", x.page(1, 33), 6);
        CHECK.same("the other copy", x.page(0, 33), 0);
        x.key(true);
        CHECK.badState("tear while ON", () -> x.tear(0, 0, 0));
        CHECK.noSuch("the word is looked at first", () -> x.tear(0, 34, 0));
        x.key(false);
        CHECK.badState("tear in the AFTER-RUN", () -> x.tear(0, 0, 0));
    }

    /** A copy whose cells of MAP 0 are a, of MAP 1 b. */
    private static void put(EngineControl x, int copy, int head, int a, int b) {
        int sum = head;
        x.tear(copy, 0, head);
        for (int i = 1; i < 33; i++) {
            x.tear(copy, i, i <= 16 ? a : b);
            sum += (i + 1) * (i <= 16 ? a : b);
        }
        x.tear(copy, 33, sum);
    }

    private static void validity() {
        EngineControl x = new EngineControl();
        put(x, 0, 1, 20000, -100);
        CHECK.same("HEAD", x.about(70), 1);
        x.key(true);
        CHECK.same("MAP 0", x.value(0, 700, 77), 20000);
        CHECK.same("MAP 1", x.value(1, 700, 77), -100);
        x.cut(0);
        CHECK.same("MAPS stay", x.value(0, 700, 77), 20000);
        put(x, 1, 2, 0, 450);
        CHECK.same("the greater HEAD", x.about(70), 2);
        x.key(true);
        CHECK.same("MAP 1 of copy 1", x.value(1, 700, 77), 450);
        x.cut(0);
        put(x, 1, 2, 20001, 450);
        CHECK.same("a cell that can't be", x.about(70), 1);
        put(x, 1, 2, -1, 450);
        CHECK.same("a cell that can't be", x.about(70), 1);
        put(x, 1, 2, 0, 451);
        CHECK.same("a cell that can't be", x.about(70), 1);
        put(x, 1, 2, 0, -101);
        CHECK.same("a cell that can't be", x.about(70), 1);
        put(x, 1, 2, 0, 450);
        for (int i : new int[] {1, 16, 17, 32}) {
            int was = x.tear(1, i, 20001);
            int sum = x.tear(1, 33, x.page(1, 33) + (i + 1) * (20001 - was));
            CHECK.same("word " + i + " can't be", x.about(70), 1);
            x.tear(1, i, was);
            x.tear(1, 33, sum);
            CHECK.same("it is valid again", x.about(70), 2);
        }
        x.tear(1, 0, 0);
        put(x, 0, 0, 0, 0);
        CHECK.same("HEAD 0", x.about(70), 0);
        x.cell(0, 0, 0, 77);
        x.key(true);
        CHECK.same("no valid copy: MAPS stay", x.value(0, 0, 0), 77);
        x.cut(0);
        put(x, 0, 7, 0, 0);
        x.tear(0, 33, 6);
        CHECK.same("a wrong sum", x.about(70), 0);
        x.tear(0, 33, 7);
        put(x, 1, 7, 100, 100);
        x.key(true);
        CHECK.same("of two alike copy 0", x.value(0, 0, 0), 0);
    }

    private static void ask(EngineControl x, int... data) {
        int[] all = new int[5];
        System.arraycopy(data, 0, all, 0, data.length);
        x.drain();
        x.ask(data.length, all[0], all[1], all[2], all[3], all[4]);
    }

    private static EngineControl opened() {
        EngineControl x = new EngineControl();
        x.key(true);
        open(x);
        return x;
    }

    private static void open(EngineControl x) {
        ask(x, 0x81);
        ask(x, 0x27, 1);
        int key = 3 * (x.byteOf(5) * 256 + x.byteOf(6)) + 4660;
        ask(x, 0x27, 2, key >> 8, key);
        CHECK.same("OPEN", x.about(41), 1);
    }

    private static void refused(EngineControl x, int r, int... data) {
        ask(x, data);
        CHECK.same("REFUSAL", x.byteOf(3), 0x7F);
        CHECK.same("service", x.byteOf(4), data[0]);
        CHECK.same("reason", x.byteOf(5), r);
    }

    private static void load(EngineControl x, int map, int step) {
        ask(x, 0x34, map);
        CHECK.same("74h", x.byteOf(3) * 256 + x.byteOf(4), 0x7400 + map);
        for (int place = 0; place < 16; place++) {
            int v = place * step;
            ask(x, 0x36, place, v >> 8, v);
            CHECK.same("76h", x.byteOf(3) * 256 + x.byteOf(4), 0x7600 + place);
        }
    }

    private static void loading() {
        EngineControl x = opened();
        CHECK.same("nothing is LOADING", x.about(71), 0);
        load(x, 1, -6);
        CHECK.same("MAP 1 is LOADING", x.about(71), 2);
        CHECK.same("not yet", x.value(1, 0, 0), 100);
        int sum = -6 * 120;
        ask(x, 0x37, sum >> 8, sum);
        CHECK.same("77h", x.byteOf(3), 0x77);
        CHECK.same("nothing is LOADING", x.about(71), 0);
        CHECK.same("place 5: cell 1, 1", x.value(1, 1500, 50), -30);
        CHECK.same("35 words", x.about(48), 35);
        CHECK.same("HEAD", x.about(70), 1);
        CHECK.same("page of MAP 1", x.page(0, 17 + 5), -30);
        CHECK.same("page of MAP 0", x.page(0, 1 + 5), 2500);
        load(x, 0, 1000);
        ask(x, 0x37, 120000 >> 8, 120000);
        CHECK.same("the other copy", x.page(1, 0), 2);
        CHECK.same("both MAPS", x.page(1, 17 + 5), -30);
        CHECK.same("both MAPS", x.page(1, 1 + 15), 15000);
        CHECK.same("HEAD", x.about(70), 2);
    }

    private static void refusals() {
        EngineControl x = new EngineControl();
        x.key(true);
        ask(x, 0x81);
        refused(x, 0x33, 0x34, 0);
        refused(x, 0x24, 0x36, 0, 0, 0);
        refused(x, 0x24, 0x37, 0, 0);
        open(x);
        refused(x, 0x31, 0x34, 2);
        ask(x, 0x34, 0);
        CHECK.same("MAP 0 is LOADING", x.about(71), 1);
        refused(x, 0x31, 0x36, 1, 0, 0);
        refused(x, 0x31, 0x36, 0, 0x4E, 0x21);
        refused(x, 0x31, 0x36, 0, 0xFF, 0xFF);
        ask(x, 0x36, 0, 0x4E, 0x20);
        CHECK.same("20000", x.byteOf(3), 0x76);
        refused(x, 0x31, 0x36, 0, 0, 0);
        refused(x, 0x24, 0x37, 0x4E, 0x20);
        CHECK.same("LOADING yet", x.about(71), 1);
        load(x, 0, 1);
        refused(x, 0x31, 0x36, 16, 0, 0);
        refused(x, 0x72, 0x37, 0, 121);
        CHECK.same("nothing is LOADING", x.about(71), 0);
        refused(x, 0x24, 0x37, 0, 120);
        CHECK.same("nothing was written", x.about(48), 0);
        load(x, 0, 1);
        ask(x, 0x81);
        CHECK.same("not OPEN any more", x.about(71), 0);
        open(x);
        ask(x, 0x34, 1);
        ask(x, 0x82);
        CHECK.same("no SESSION any more", x.about(71), 0);
        open(x);
        ask(x, 0x34, 1);
        x.tooth(1000);
        refused(x, 0x22, 0x34, 1);
        CHECK.same("LOADING goes on", x.about(71), 2);
        ask(x, 0x36, 0, 0xFF, 0x9C);
        CHECK.same("-100", x.byteOf(3), 0x76);
        refused(x, 0x31, 0x36, 1, 0xFF, 0x9B);
        refused(x, 0x31, 0x36, 1, 0x01, 0xC3);
    }

    private static void cutWhileWriting() {
        EngineControl x = opened();
        load(x, 0, 7);
        x.cut(34);
        ask(x, 0x37, 840 >> 8, 840);
        CHECK.same("no answer", x.about(43), 0);
        CHECK.same("OFF", x.about(1), EngineControl.OFF);
        CHECK.same("not valid", x.about(70), 0);
        CHECK.same("the MAP is these", x.value(0, 500, 50), 7);
        x.key(true);
        open(x);
        load(x, 0, 8);
        x.cut(35);
        ask(x, 0x37, 960 >> 8, 960);
        CHECK.same("no answer", x.about(43), 0);
        CHECK.same("valid", x.about(70), 1);
        x.key(true);
        x.key(false);
        x.pass(1000000);
        CHECK.same("none is armed any more", x.about(48), 34 + 35 + 56);
    }
}
