/** Common help of the tests: objects in certain states, and what is asked of them often. */
final class Rig {
    private Rig() {
    }

    /** TIME passes so many LOOPS on; from a multiple of 10,000 on it ends at the last of them. */
    static void loops(EngineControl x, int n) {
        for (int left = n; left > 0; left -= 200) {
            x.pass(10000 * Math.min(200, left));
        }
    }

    /** TIME passes to the next LOOP, and through it. */
    static void toLoop(EngineControl x) {
        x.pass((int) (10000 - x.about(0) % 10000));
    }

    static EngineControl on() {
        EngineControl x = new EngineControl();
        x.key(true);
        return x;
    }

    /** STATE is FULL, at TOOTH 15 of TURN 0, with the wheel of the MODEL at place 15. */
    static void toFull(EngineControl x, int pitch) {
        x.turn(135, pitch);
    }

    static int build(EngineControl x, String text) {
        for (int i = 0; i < text.length(); i++) {
            x.unit(text.charAt(i));
        }
        return x.build();
    }

    static void everyCell(EngineControl x, int map, int v) {
        for (int i = 0; i < 4; i++) {
            for (int j = 0; j < 4; j++) {
                x.cell(map, i, j, v);
            }
        }
    }

    /** Asks, and tells the answer's DATA as a text of numbers to the base 16; empty without an answer. */
    static String ask(EngineControl x, int... data) {
        int[] all = new int[5];
        System.arraycopy(data, 0, all, 0, data.length);
        x.drain();
        x.ask(data.length, all[0], all[1], all[2], all[3], all[4]);
        return data(x);
    }

    /** The DATA of the first answer in OUT. */
    static String data(EngineControl x) {
        int bytes = (int) x.about(43);
        if (bytes == 0) {
            return "";
        }
        int m = x.byteOf(0) - 128;
        StringBuilder text = new StringBuilder();
        for (int i = 0; i < m; i++) {
            text.append(i == 0 ? "" : " ").append(String.format("%02X", x.byteOf(3 + i)));
        }
        return text.toString();
    }

    /** A SESSION that is OPEN. */
    static void open(EngineControl x) {
        ask(x, 0x81);
        ask(x, 0x27, 1);
        int key = 3 * (x.byteOf(5) * 256 + x.byteOf(6)) + 4660;
        ask(x, 0x27, 2, key >> 8, key);
    }

    /** A copy of STORE with this HEAD and these words (number, word, ..), and the sum that is due. */
    static void store(EngineControl x, int copy, int head, int... words) {
        int sum = head;
        for (int i = 0; i < words.length; i += 2) {
            x.spoil(copy, words[i], words[i + 1]);
            sum += (words[i] + 1) * words[i + 1];
        }
        x.spoil(copy, 0, head);
        x.spoil(copy, 54, sum);
    }

    /** RAW for which a LINE 0 0, 1023 1023 tells the RAW itself. */
    static void plainLine(EngineControl x, int line) {
        x.line(line, 0, 0, 1023, 1023);
    }

    static int checkOf(int high, int lowThree) {
        int check = 0xA5;
        for (int shift = 0; shift < 32; shift += 8) {
            check ^= high >>> shift & 255;
        }
        for (int shift = 0; shift < 24; shift += 8) {
            check ^= lowThree >>> shift & 255;
        }
        return check;
    }

    /** A FRAME 336 with this percentage and COUNT, and the CHECK that is due. */
    static boolean allow(EngineControl x, int percentage, int count) {
        int high = percentage << 24;
        return x.frameComes(336, high, count << 8 | checkOf(high, count));
    }
}
