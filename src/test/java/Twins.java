import java.util.ArrayList;
import java.util.List;

/**
 * Tells whether a call changed something: of two objects with the same history one has the call, and
 * both are asked for all that can be told, at once and behind some time more. They are made anew for
 * each part of what is asked, since no more than 512 calls of one object are promised.
 */
final class Twins {
    interface Use {
        void on(EngineControl x);
    }

    private static final int PARTS = 7;
    private static final int[] PLACES = {-10001, -40, 0, 1, 79, 130, 512, 1022, 30001};

    private Twins() {
    }

    /** What differs; null if nothing does. */
    static String difference(Use history, Use call) {
        for (int part = 0; part < PARTS; part++) {
            EngineControl without = new EngineControl();
            EngineControl with = new EngineControl();
            history.on(without);
            history.on(with);
            call.on(with);
            List<Long> due = read(without, part);
            List<Long> got = read(with, part);
            for (int i = 0; i < due.size() || i < got.size(); i++) {
                if (i >= due.size() || i >= got.size() || !due.get(i).equals(got.get(i))) {
                    return "number " + i + " of part " + part;
                }
            }
        }
        return null;
    }

    private static List<Long> read(EngineControl x, int part) {
        List<Long> numbers = new ArrayList<>();
        switch (part) {
            case 0: abouts(x, numbers); channels(x, numbers); break;
            case 1: troubles(x, numbers); break;
            case 2: words(x, numbers); break;
            case 3: linesAndMaps(x, numbers); break;
            case 4: rows(x, numbers); break;
            case 5: later(x, numbers); break;
            default: muchLater(x, numbers); break;
        }
        return numbers;
    }

    private static void abouts(EngineControl x, List<Long> numbers) {
        for (int what = 0; what < 80; what++) {
            numbers.add(x.about(what));
        }
    }

    private static void channels(EngineControl x, List<Long> numbers) {
        for (int c = 0; c < 10; c++) {
            for (int what = 0; what < 4; what++) {
                numbers.add((long) x.channel(c, what));
            }
        }
        for (int what = 0; what < 8; what++) {
            numbers.add((long) x.frame(what));
        }
    }

    private static void troubles(EngineControl x, List<Long> numbers) {
        for (int k = 0; k < 28; k++) {
            for (int what = 0; what < 7; what++) {
                numbers.add((long) x.trouble(k, what));
            }
        }
    }

    private static void words(EngineControl x, List<Long> numbers) {
        for (int copy = 0; copy < 2; copy++) {
            for (int i = 0; i < 55; i++) {
                numbers.add((long) x.word(copy, i));
            }
            for (int i = 0; i < 34; i++) {
                numbers.add((long) x.page(copy, i));
            }
        }
    }

    private static void linesAndMaps(EngineControl x, List<Long> numbers) {
        for (int line = 0; line < 13; line++) {
            for (int place : PLACES) {
                numbers.add((long) x.lineAt(line, place));
            }
        }
        for (int map = 0; map < 2; map++) {
            for (int speed = 0; speed < 8; speed++) {
                for (int pressure = 0; pressure < 6; pressure++) {
                    numbers.add((long) x.value(map, 1000 * speed, 21 * pressure));
                }
            }
        }
    }

    private static void rows(EngineControl x, List<Long> numbers) {
        int edges = (int) Math.min(200, x.about(14));
        int sent = (int) Math.min(64, x.about(63));
        int rows = (int) x.about(78);
        int bytes = (int) Math.min(40, x.about(43));
        for (int i = 0; i < bytes; i++) {
            numbers.add((long) x.byteOf(i));
        }
        for (int what = 0; what < 3; what++) {
            for (int i = Math.max(0, edges - 8); i < edges; i++) {
                numbers.add(x.edge(i, what));
            }
            for (int i = Math.max(0, sent - 8); i < sent; i++) {
                numbers.add((long) x.sent(i, what));
            }
            for (int i = Math.max(0, rows - 8); i < rows; i++) {
                numbers.add(x.row(i, what));
            }
        }
        for (int what = 0; what < 8; what++) {
            numbers.add((long) x.cylinder(0, what));
        }
    }

    /** Tells NUMBERS by the tester, and what waits: a REQUEST that is not whole, an armed CUT, LOADING. */
    private static void later(EngineControl x, List<Long> numbers) {
        numbers.add((long) x.build());
        numbers.add(x.key(true) ? 1L : 0L);
        numbers.add((long) x.pass(35000));
        x.drain();
        x.ask(1, 0x81, 0, 0, 0, 0);
        x.ask(2, 9, 6, 0, 0, 0);
        x.turn(150, 900);
        numbers.add((long) x.run(100));
        int bytes = (int) x.about(43);
        for (int i = 0; i < bytes; i++) {
            numbers.add((long) x.byteOf(i));
        }
        abouts(x, numbers);
        channels(x, numbers);
    }

    private static void muchLater(EngineControl x, List<Long> numbers) {
        x.key(false);
        numbers.add((long) x.pass(1000000));
        abouts(x, numbers);
        for (int i = 0; i < 55; i++) {
            numbers.add((long) x.word(0, i));
        }
        numbers.add((long) x.cut(0));
        x.key(true);
        numbers.add((long) x.pass(2000000));
        abouts(x, numbers);
    }
}
