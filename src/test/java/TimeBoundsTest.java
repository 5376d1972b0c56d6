/** Boundary cases of 'TIME AND POWER': when a LOOP is due, OFF, the AFTER-RUN's end, and CUTS word by word. */
public final class TimeBoundsTest {
    private static final Check CHECK = new Check();

    public static void main(String[] args) {
        loopAtEachMultiple();
        noLoopAtTheTimeOfTheKey();
        loopBeforeTheCallsOwnEdge();
        loopBeforeTheCallsOwnByte();
        eventAtThePresentTime();
        offHearsNobody();
        bootAndNoBoot();
        keyAnswers();
        hundredthLoopOfTheAfterRun();
        keyOnInTheLastLoop();
        cutBehindEachWord();
        cutBehindTheStoreGoesOn();
        cutInPlaceOfAnother();
        noneIsArmedBehindACut();
        cutAtOnce();
        cutOverTheBook();
        armedCutStays();
        passTellsEdges();
        loopsInOneCall();
        CHECK.end();
    }

    // "the LOOP (at each multiple of 10,000 above the TIME before)"
    private static void loopAtEachMultiple() {
        EngineControl x = Rig.on();
        x.pass(9999);
        CHECK.same("LOOPS at 9999", x.about(11), 0);
        x.pass(0);
        CHECK.same("LOOPS at 9999 still", x.about(11), 0);
        x.pass(1);
        CHECK.same("LOOPS at 10000", x.about(11), 1);
        x.pass(0);
        CHECK.same("not twice", x.about(11), 1);
        x.pass(9999);
        CHECK.same("LOOPS at 19999", x.about(11), 1);
        x.pass(2);
        CHECK.same("LOOPS at 20001", x.about(11), 2);
        x.pass(29999);
        CHECK.same("LOOPS at 50000", x.about(11), 5);
    }

    private static void noLoopAtTheTimeOfTheKey() {
        EngineControl x = new EngineControl();
        x.pass(10000);
        x.key(true);
        x.pass(0);
        CHECK.same("no LOOP at the TIME before", x.about(11), 0);
        x.pass(9999);
        CHECK.same("none at 19999", x.about(11), 0);
        x.pass(1);
        CHECK.same("one at 20000", x.about(11), 1);
        EngineControl y = new EngineControl();
        y.pass(9999);
        y.key(true);
        y.pass(1);
        CHECK.same("one tick behind the KEY", y.about(11), 1);
    }

    // STALL is full at the LOOP; the edge of the same time comes to a controller that is LOST.
    private static void loopBeforeTheCallsOwnEdge() {
        EngineControl x = new EngineControl();
        x.calibrate(2, 100000);
        x.key(true);
        x.pass(9999);
        x.tooth(1);
        x.tooth(1000);
        CHECK.same("PITCH", x.about(5), 1000);
        CHECK.same("LAST is 11000: not yet at 110000", x.tooth(99000), EngineControl.SEEKING);
        CHECK.same("PITCH", x.about(5), 99000);
        CHECK.same("LAST is 110000: LOST at 210000, then heard", x.tooth(100000), EngineControl.SEEKING);
        CHECK.same("no PITCH", x.about(5), 0);
    }

    // The 500th LOOP ends the SESSION before the REQUEST's last byte comes.
    private static void loopBeforeTheCallsOwnByte() {
        for (int late = 0; late <= 1; late++) {
            EngineControl x = Rig.on();
            x.ask(1, 0x81, 0, 0, 0, 0);
            x.drain();
            CHECK.same("TIME", x.about(0), 34000);
            for (int i = 0; i < 2; i++) {
                x.pass(2000000);
            }
            x.pass(5029999 - 4034000);
            x.hear(129, 0);
            x.hear(17, 0);
            x.hear(241, 0);
            x.hear(0x3E, 0);
            x.hear(129 + 17 + 241 + 0x3E & 255, late);
            CHECK.same("SESSION", x.about(40), 1 - late);
            CHECK.same("OUT", x.about(43), 5 * (1 - late));
        }
    }

    // An EVENT whose time is that of the edge happens when time passes next, be it by 0.
    private static void eventAtThePresentTime() {
        EngineControl x = Rig.on();
        Rig.toFull(x, 1000);
        while (x.about(12) == 0) {
            x.turn(1, 1000);
        }
        CHECK.same("not yet", x.about(14), 0);
        CHECK.same("pass(0)", x.pass(0), 1);
        CHECK.same("at the time of the edge", x.edge(0, 0), x.about(0));
        CHECK.same("not again", x.pass(0), 0);
    }

    // "While the controller is OFF nothing is due, and edges and bytes are heard by nobody"
    private static void offHearsNobody() {
        EngineControl x = new EngineControl();
        CHECK.same("tooth", x.tooth(10), EngineControl.LOST);
        CHECK.same("cam", x.cam(10), EngineControl.LOST);
        CHECK.same("turn", x.turn(240, 1000), EngineControl.LOST);
        CHECK.same("hear", x.hear(5, 10), 0);
        CHECK.same("ask", x.ask(1, 0x81, 0, 0, 0, 0), 0);
        CHECK.same("NOISE", x.about(42), 0);
        CHECK.same("LOOPS", x.about(11), 0);
        CHECK.same("TIME", x.about(0), 10 + 10 + 240000 + 10 + 34000);
        CHECK.same("WHERE", x.about(45), 0);
        CHECK.same("ERRORS", x.noise(7), 0);
        CHECK.no("a FRAME", Rig.allow(x, 50, 0));
        CHECK.same("BADFRAMES", x.about(60), 0);
        CHECK.same("a button", x.press(0), 0);
        // The three bytes that were heard by nobody begin no REQUEST.
        x.hear(129, 0);
        x.hear(17, 0);
        x.hear(241, 0);
        x.key(true);
        x.hear(0x81, 0);
        x.hear(129 + 17 + 241 + 0x81 & 255, 0);
        CHECK.same("no SESSION", x.about(40), 0);
    }

    private static void bootAndNoBoot() {
        EngineControl x = new EngineControl();
        CHECK.same("BOOTS", x.about(69), 0);
        x.key(true);
        CHECK.same("BOOTS", x.about(69), 1);
        Rig.loops(x, 7);
        x.key(false);
        Rig.loops(x, 3);
        x.key(true);
        CHECK.same("no BOOT in the AFTER-RUN", x.about(69), 1);
        CHECK.same("LOOPS go on", x.about(11), 10);
        x.cut(0);
        CHECK.same("LOOPS when OFF", x.about(11), 0);
        CHECK.same("BOOTS stay", x.about(69), 1);
        x.key(true);
        CHECK.same("BOOTS", x.about(69), 2);
        CHECK.same("LOOPS", x.about(11), 0);
    }

    // "whether it was not so"
    private static void keyAnswers() {
        EngineControl x = new EngineControl();
        CHECK.no("off when OFF", x.key(false));
        CHECK.same("OFF", x.about(1), EngineControl.OFF);
        CHECK.yes("on", x.key(true));
        CHECK.no("on again", x.key(true));
        CHECK.same("no second BOOT", x.about(69), 1);
        CHECK.yes("off", x.key(false));
        CHECK.no("off again", x.key(false));
        CHECK.same("AFTER", x.about(1), EngineControl.AFTER);
        CHECK.yes("on in the AFTER-RUN", x.key(true));
        x.cut(0);
        CHECK.no("a CUT put the KEY off", x.key(false));
        CHECK.yes("on behind a CUT", x.key(true));
    }

    // "each LOOP in the AFTER-RUN makes it one more, and at 100 the CYCLE ends, STORE is WRITTEN, and it is OFF"
    private static void hundredthLoopOfTheAfterRun() {
        EngineControl x = Rig.on();
        Rig.loops(x, 2);
        x.key(false);
        x.pass(5);
        CHECK.no("KEY off again does not begin it anew", x.key(false));
        x.pass(999994);
        CHECK.same("one tick before", x.about(1), EngineControl.AFTER);
        CHECK.same("99 LOOPS", x.about(11), 101);
        CHECK.same("nothing WRITTEN", x.about(48), 0);
        CHECK.same("HEAD", x.about(49), 0);
        x.pass(1);
        CHECK.same("at the 100th", x.about(1), EngineControl.OFF);
        CHECK.same("LOOPS", x.about(11), 0);
        CHECK.same("WRITTEN", x.about(48), 56);
        CHECK.same("HEAD", x.about(49), 1);
        CHECK.same("CYCLES are kept", x.word(0, 53), 1);
        CHECK.same("the other copy is empty", x.word(1, 0), 0);
        x.pass(2000000);
        CHECK.same("once", x.about(48), 56);
    }

    private static void keyOnInTheLastLoop() {
        EngineControl x = Rig.on();
        x.key(false);
        Rig.loops(x, 99);
        x.key(true);
        Rig.loops(x, 5);
        CHECK.same("ON again", x.about(1), EngineControl.ON);
        x.key(false);
        Rig.loops(x, 99);
        CHECK.same("AFTER began at 0 again", x.about(1), EngineControl.AFTER);
        Rig.loops(x, 1);
        CHECK.same("OFF", x.about(1), EngineControl.OFF);
        CHECK.same("one CYCLE", x.word(0, 53), 1);
    }

    private static EngineControl endsCycleWithCut(int words) {
        EngineControl x = new EngineControl();
        // All words of the copy that will be WRITTEN are something else.
        for (int i = 0; i < 55; i++) {
            x.spoil(0, i, -7);
        }
        x.key(true);
        x.cut(words);
        x.key(false);
        Rig.loops(x, 100);
        return x;
    }

    // "A CUT may be armed: it comes behind so many words more that are WRITTEN (that WRITING ends there)."
    private static void cutBehindEachWord() {
        for (int words = 1; words <= 57; words++) {
            EngineControl x = endsCycleWithCut(words);
            int due = Math.min(words, 56);
            CHECK.same("WRITTEN", x.about(48), due);
            CHECK.same("word 0", x.word(0, 0), words >= 56 ? 1 : 0);
            for (int i = 1; i < 55; i++) {
                CHECK.yes("cut(" + words + "), word " + i, x.word(0, i) == -7 == i >= words);
            }
            CHECK.same("HEAD of the valid copy", x.about(49), words >= 56 ? 1 : 0);
            CHECK.same("OFF", x.about(1), EngineControl.OFF);
        }
    }

    private static void cutBehindTheStoreGoesOn() {
        EngineControl x = endsCycleWithCut(57);
        CHECK.same("the whole STORE", x.about(48), 56);
        x.key(true);
        x.key(false);
        Rig.loops(x, 100);
        CHECK.same("one word more, then the CUT", x.about(48), 57);
        CHECK.same("the valid copy stands", x.about(49), 1);
        x.key(true);
        x.key(false);
        Rig.loops(x, 100);
        CHECK.same("none is armed any more", x.about(48), 57 + 56);
        CHECK.same("HEAD", x.about(49), 2);
    }

    // "(in place of one armed before)", "or none is armed (NONE)"
    private static void cutInPlaceOfAnother() {
        EngineControl x = Rig.on();
        x.cut(3);
        x.cut(20);
        x.key(false);
        Rig.loops(x, 100);
        CHECK.same("the later one counts", x.about(48), 20);
        x.key(true);
        x.cut(3);
        x.cut(EngineControl.NONE);
        x.key(false);
        Rig.loops(x, 100);
        CHECK.same("none is armed", x.about(48), 76);
    }

    // "Behind any CUT none is armed."
    private static void noneIsArmedBehindACut() {
        EngineControl x = Rig.on();
        x.cut(3);
        x.cut(0);
        x.key(true);
        x.key(false);
        Rig.loops(x, 100);
        CHECK.same("all is WRITTEN", x.about(48), 56);
        EngineControl y = new EngineControl();
        y.cut(3);
        y.cut(0);
        y.key(true);
        y.key(false);
        Rig.loops(y, 100);
        CHECK.same("a CUT when OFF, too", y.about(48), 56);
    }

    // "A CUT of power: it is OFF at once, the KEY is off."
    private static void cutAtOnce() {
        EngineControl x = Rig.on();
        CHECK.same("while ON", x.cut(0), EngineControl.OFF);
        CHECK.same("nothing is WRITTEN", x.about(48), 0);
        CHECK.no("the KEY is off", x.key(false));
        x.key(true);
        x.key(false);
        CHECK.same("in the AFTER-RUN", x.cut(0), EngineControl.OFF);
        Rig.loops(x, 200);
        CHECK.same("no CYCLE ends", x.about(48), 0);
        CHECK.same("when OFF", x.cut(0), EngineControl.OFF);
    }

    private static EngineControl loads(int words) {
        EngineControl x = new EngineControl();
        for (int i = 0; i < 34; i++) {
            x.tear(0, i, -7);
        }
        x.key(true);
        Rig.open(x);
        Rig.ask(x, 0x34, 0);
        for (int place = 0; place < 16; place++) {
            Rig.ask(x, 0x36, place, 0, 10);
        }
        x.cut(words);
        x.drain();
        x.ask(3, 0x37, 0, 160, 0, 0);
        return x;
    }

    // "(Words of the BOOK are WRITTEN, too.)", "35 words (0 is 0; 1 .. 32; 33; 0)", "77h (none if a CUT came)"
    private static void cutOverTheBook() {
        for (int words : new int[] {1, 2, 17, 33, 34, 35, 36}) {
            EngineControl x = loads(words);
            CHECK.same("WRITTEN", x.about(48), Math.min(35, words));
            CHECK.same("word 0", x.page(0, 0), words >= 35 ? 1 : 0);
            for (int i = 1; i < 34; i++) {
                CHECK.yes("cut(" + words + "), word " + i, x.page(0, i) == -7 == i >= words);
            }
            CHECK.same("HEAD", x.about(70), words >= 35 ? 1 : 0);
            CHECK.same("power", x.about(1), words <= 35 ? EngineControl.OFF : EngineControl.ON);
            CHECK.same("OUT", x.about(43), words <= 35 ? 0 : 5);
        }
    }

    // "an armed CUT stay" when the controller goes OFF
    private static void armedCutStays() {
        EngineControl x = new EngineControl();
        x.cut(60);
        x.key(true);
        x.key(false);
        Rig.loops(x, 100);
        CHECK.same("56 words", x.about(48), 56);
        x.key(true);
        x.pass(5000);
        x.key(false);
        Rig.loops(x, 100);
        CHECK.same("the CUT came behind 60", x.about(48), 60);
        CHECK.same("word 3 of copy 1", x.word(1, 3), 0);
    }

    private static void passTellsEdges() {
        EngineControl x = Rig.on();
        Rig.toFull(x, 1000);
        x.turn(110, 1000);
        long before = x.about(14);
        int told = x.pass(100000);
        CHECK.same("EDGES of one pass", told, x.about(14) - before);
        CHECK.yes("there were some", told > 0);
        EngineControl y = Rig.on();
        CHECK.same("none", y.pass(2000000), 0);
    }

    private static void loopsInOneCall() {
        EngineControl x = Rig.on();
        x.pass(2000000);
        CHECK.same("200 LOOPS", x.about(11), 200);
        x.turn(240, 100000);
        CHECK.same("2400 LOOPS more", x.about(11), 2600);
    }
}
