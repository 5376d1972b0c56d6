/** Boundary cases of the RULES: the TEXT's room, FAULTS at each place, what may be open, numbers that wrap. */
public final class RulesBoundsTest {
    private static final Check CHECK = new Check();

    public static void main(String[] args) {
        characters();
        roomForTwoHundred();
        emptyText();
        oneToEightRules();
        faultsOfEachKind();
        blanks();
        numbers();
        twelveOpen();
        thirteenthOfEachKind();
        closedCountNoMore();
        programStays();
        wrapping();
        dividing();
        comparing();
        chosenOne();
        rulesInTurn();
        outsBehindOff();
        fullProgram();
        CHECK.end();
    }

    private static int build(String text) {
        return Rig.build(new EngineControl(), text);
    }

    private static void right(String text, int rules) {
        CHECK.same("RULES of " + text, build(text), rules);
    }

    private static void fault(String text, int place) {
        CHECK.same("FAULT of " + text, build(text), -1 - place);
    }

    private static String times(String part, int n) {
        StringBuilder all = new StringBuilder();
        for (int i = 0; i < n; i++) {
            all.append(part);
        }
        return all.toString();
    }

    private static void gives(String choice, long due) {
        EngineControl x = new EngineControl();
        CHECK.same("RULES of " + choice, Rig.build(x, "a=" + choice), 1);
        x.key(true);
        Rig.loops(x, 1);
        CHECK.same(choice, x.about(72), due);
    }

    // "whether there was room, and it is 32 .. 126"
    private static void characters() {
        for (int u : new int[] {31, 127, 0, -1, 32 - 256, 97 + 256, 65536 + 97, Integer.MIN_VALUE, Integer.MAX_VALUE}) {
            EngineControl x = new EngineControl();
            CHECK.no("unit(" + u + ")", x.unit(u));
            CHECK.same("the TEXT is empty", x.about(77), 0);
        }
        for (int u : new int[] {32, 33, 125, 126}) {
            EngineControl x = new EngineControl();
            CHECK.yes("unit(" + u + ")", x.unit(u));
            CHECK.same("the TEXT", x.about(77), 1);
        }
        // Each character is kept as it is: the FAULT is at the first one that can't be there.
        for (int u = 33; u <= 126; u++) {
            EngineControl x = new EngineControl();
            x.unit(u);
            CHECK.same("build of " + u, x.build(), u >= 'a' && u <= 'd' ? -2 : -1);
        }
    }

    // "200 at most"
    private static void roomForTwoHundred() {
        EngineControl x = new EngineControl();
        String text = "a=1" + times("+1", 98) + " ";
        CHECK.same("200 characters", text.length(), 200);
        for (int i = 0; i < 199; i++) {
            x.unit(text.charAt(i));
        }
        CHECK.same("199", x.about(77), 199);
        CHECK.yes("the 200th", x.unit(' '));
        CHECK.no("the 201st", x.unit(';'));
        CHECK.no("another one", x.unit(31));
        CHECK.same("200", x.about(77), 200);
        CHECK.same("the refused one is not there", x.build(), 1);
        CHECK.same("empty then", x.about(77), 0);
        CHECK.yes("there is room again", x.unit('a'));
        EngineControl y = new EngineControl();
        for (int i = 0; i < 199; i++) {
            y.unit(i == 0 ? 'a' : i == 1 ? '=' : i % 2 == 0 ? '1' : '+');
        }
        y.unit('+');
        CHECK.same("FAULT at the last one's end", y.build(), -1 - 200);
        EngineControl z = new EngineControl();
        for (int i = 0; i < 200; i++) {
            z.unit(' ');
        }
        CHECK.same("blanks alone", z.build(), -201);
    }

    // "FAULT: the first character that can't be there, or the TEXT's end"
    private static void emptyText() {
        EngineControl x = new EngineControl();
        CHECK.same("empty", x.build(), -1);
        CHECK.same("no RULES", x.about(76), 0);
        Rig.build(x, "a=1");
        CHECK.same("empty again", x.build(), -1);
        CHECK.same("the PROGRAM stays", x.about(76), 1);
    }

    // "TEXT = RULE (; RULE)*, 1 to 8", "nor a ; behind the eighth RULE"
    private static void oneToEightRules() {
        for (int n = 1; n <= 8; n++) {
            right("a=1" + times(";b=2", n - 1), n);
            EngineControl x = new EngineControl();
            Rig.build(x, "a=1" + times(";b=2", n - 1));
            CHECK.same("RULES", x.about(76), n);
        }
        fault("a=1" + times(";b=2", 7) + ";b=2", 31);
        fault("a=1" + times(";b=2", 7) + ";", 31);
        fault("a=1" + times(";b=2", 7) + " ;", 32);
        fault("a=1" + times(";b=2", 6) + ";", 28);
        right("a=1" + times(";b=2", 7) + "  ", 8);
        fault("a=1;", 4);
        fault(";a=1", 0);
        fault("a=1;;b=2", 4);
    }

    private static void faultsOfEachKind() {
        fault("e=1", 0);
        fault("s=1", 0);
        fault("1=1", 0);
        fault("A=1", 0);
        fault("a", 1);
        fault("a1", 1);
        fault("a:1", 1);
        fault("a=", 2);
        fault("a=)", 2);
        fault("a=+1", 2);
        fault("a=*1", 2);
        fault("a=e", 2);
        fault("a=w", 2);
        fault("a=S", 2);
        fault("a=?", 2);
        fault("a=1=1", 3);
        fault("a=ab", 3);
        fault("a=s1", 3);
        fault("a=1s", 3);
        fault("a=(", 3);
        fault("a=(1", 4);
        fault("a=(1;", 4);
        fault("a=(1:", 4);
        fault("a=1)", 3);
        fault("a=(1))", 5);
        fault("a=1+", 4);
        fault("a=1-", 4);
        fault("a=1*", 4);
        fault("a=1/", 4);
        fault("a=-", 3);
        fault("a=-;", 3);
        fault("a=1*/2", 4);
        fault("a=1<", 4);
        fault("a=1<2", 5);
        fault("a=1<2;", 5);
        fault("a=1<2:", 5);
        fault("a=1<2>3?4:5", 5);
        fault("a=1~2~3?4:5", 5);
        fault("a=1<2?", 6);
        fault("a=1<2?3", 7);
        fault("a=1<2?3;", 7);
        fault("a=1<2?3:", 8);
        fault("a=1<2?3:4:", 9);
        fault("a=1<2?3:4?", 9);
        fault("a=1?2:3", 3);
        fault("a=1:2", 3);
        fault("a=(1<2)?3:4", 6);
        fault("a=1%2", 3);
        for (String out : new String[] {"a", "b", "c", "d"}) {
            right(out + "=" + out, 1);
        }
        for (String input : new String[] {"s", "p", "t", "l", "v", "k", "m", "n"}) {
            right("a=" + input, 1);
        }
        right("a=(1<2?3:4)", 1);
        right("a=(((1)))", 1);
        right("a=1<2?3<4?5:6:7>8?9:0", 1);
    }

    // "Blanks (32) may stand before anything and at the end, but not within a NUMBER."
    private static void blanks() {
        right("   a   =   -   (   1   <   2   ?   3   :   s   )   ;   b   =   0   ", 2);
        fault("a=1 2", 4);
        fault("a=12   3", 7);
        right("a=1  ", 1);
        fault("   ", 3);
        fault("a=  ", 4);
        fault("a  ", 3);
        fault("  e", 2);
        right("a=12345 ", 1);
    }

    // "a NUMBER has one to five digits"
    private static void numbers() {
        gives("0", 0);
        gives("9", 9);
        gives("99999", 99999);
        gives("00001", 1);
        fault("a=000001", 7);
        fault("a=123456", 7);
        fault("a=1+123456", 9);
        fault("a=1234567", 7);
        gives("65535+1", 65536);
    }

    // "No more than 12 of (, - before a FACTOR, and ? may be open at a time"
    private static void twelveOpen() {
        right("a=" + times("(", 12) + "1" + times(")", 12), 1);
        right("a=" + times("-", 12) + "1", 1);
        right("a=" + times("1<2?", 12) + "1" + times(":2", 12), 1);
        right("a=" + times("1<2?3:", 12) + "1", 1);
        for (int parts = 0; parts <= 12; parts++) {
            String open = times("(", parts) + times("-", 12 - parts);
            right("a=" + open + "1" + times(")", parts), 1);
            fault("a=" + open + "-1" + times(")", parts), 14);
            fault("a=" + open + "(1)" + times(")", parts), 14);
        }
        right("a=" + times("(1<2?", 6) + "1" + times(":2)", 6), 1);
        right("a=" + times("1<2?3:(", 6) + "1" + times(")", 6), 1);
    }

    // "the one that would be the 13th can't be there"
    private static void thirteenthOfEachKind() {
        fault("a=" + times("(", 13) + "1" + times(")", 13), 14);
        fault("a=" + times("-", 13) + "1", 14);
        fault("a=" + times("1<2?", 13) + "1" + times(":2", 13), 2 + 48 + 3);
        fault("a=" + times("1<2?3:", 13) + "1", 2 + 72 + 3);
        fault("a=" + times("(", 12) + "1<2?3:4" + times(")", 12), 2 + 12 + 3);
        fault("a=" + times("1<2?", 12) + "(1)" + times(":2", 12), 2 + 48);
        fault("a=" + times("1<2?", 12) + "-1" + times(":2", 12), 2 + 48);
        fault("a=" + times("1<2?3:", 12) + "(1)", 2 + 72);
        fault("a=" + times("1<2?3:", 12) + "-1", 2 + 72);
        // The SUMS before a ? are not within it.
        right("a=" + times("(", 11) + "-1<-2?3:4" + times(")", 11), 1);
        right("a=" + times("(", 11) + "1<(2)?3:4" + times(")", 11), 1);
        fault("a=" + times("(", 11) + "1<2?-3:4" + times(")", 11), 2 + 11 + 4);
        fault("a=" + times("(", 11) + "1<2?3:-4" + times(")", 11), 2 + 11 + 6);
    }

    // "(a ? until its second CHOICE has ended)", a - until its FACTOR has, a ( until its )
    private static void closedCountNoMore() {
        right("a=" + times("-1+", 30) + "1", 1);
        right("a=" + times("-1*", 30) + "1", 1);
        right("a=" + times("(1)+", 30) + "1", 1);
        right("a=" + times("(1<2?3:4)+", 15) + "1", 1);
        right("a=1" + times("-1", 60), 1);
        right("a=" + times("(", 12) + "1-1" + times(")", 12), 1);
        right("a=" + times("(", 12) + "1" + times(")", 12) + ";b=" + times("-", 12) + "1", 2);
        right("a=" + times("-", 12) + "1+" + times("(", 12) + "1" + times(")", 12), 1);
    }

    // "A TEXT without a FAULT becomes the PROGRAM (with one the PROGRAM stays)"
    private static void programStays() {
        EngineControl x = new EngineControl();
        CHECK.same("2 RULES", Rig.build(x, "a=7;b=8"), 2);
        x.key(true);
        Rig.loops(x, 1);
        CHECK.same("a", x.about(72), 7);
        CHECK.same("a FAULT in the third RULE", Rig.build(x, "a=1;b=2;c"), -10);
        CHECK.same("2 RULES", x.about(76), 2);
        CHECK.same("the TEXT is empty", x.about(77), 0);
        Rig.loops(x, 1);
        CHECK.same("a", x.about(72), 7);
        CHECK.same("b", x.about(73), 8);
        CHECK.same("c", x.about(74), 0);
        CHECK.same("1 RULE", Rig.build(x, "c=5"), 1);
        CHECK.same("OUTs are as they were", x.about(72) + x.about(73) + x.about(74), 15);
        Rig.loops(x, 1);
        CHECK.same("a is not given any more", x.about(72), 7);
        CHECK.same("c", x.about(74), 5);
        x.unit('b');
        x.cut(0);
        CHECK.same("the PROGRAM stays", x.about(76), 1);
        CHECK.same("the TEXT stays", x.about(77), 1);
    }

    // "Numbers are ints that wrap"
    private static void wrapping() {
        gives("99999*99999", 99999 * 99999);
        gives("65536*32767+65535", Integer.MAX_VALUE);
        gives("65536*32767+65535+1", Integer.MIN_VALUE);
        gives("-(65536*32768)", Integer.MIN_VALUE);
        gives("0-65536*32768-1", Integer.MAX_VALUE);
        gives("65536*65536", 0);
    }

    // "x / 0 is 0; / cuts off"
    private static void dividing() {
        gives("7/0", 0);
        gives("-7/0", 0);
        gives("0/0", 0);
        gives("7/(3-3)", 0);
        gives("7/2", 3);
        gives("(0-7)/2", -3);
        gives("7/-2", -3);
        gives("65536*32768/-1", Integer.MIN_VALUE);
        gives("1/2*2", 0);
        gives("8/4/2", 1);
        gives("9-4-2", 3);
    }

    private static void comparing() {
        gives("1<2?5:6", 5);
        gives("2<2?5:6", 6);
        gives("3<2?5:6", 6);
        gives("2>2?5:6", 6);
        gives("3>2?5:6", 5);
        gives("1>2?5:6", 6);
        gives("2~2?5:6", 5);
        gives("1~2?5:6", 6);
        gives("-1<0?5:6", 5);
        gives("65536*32768<0?5:6", 5);
        gives("1+1~2?5:6", 5);
    }

    private static void chosenOne() {
        gives("1<2?3<4?10:20:30", 10);
        gives("1<2?4<3?10:20:30", 20);
        gives("2<1?10:3<4?20:30", 20);
        gives("2<1?10:4<3?20:30", 30);
        gives("(1<2?3:4)*10+5", 35);
        gives("1<2?3:4*10+5", 3);
        gives("2<1?3:4*10+5", 45);
        gives("1<(2<3?0:9)?5:6", 6);
        gives("1<2?1/0:5", 0);
    }

    // "each RULE of the PROGRAM in turn gives its OUT what its CHOICE is"
    private static void rulesInTurn() {
        EngineControl x = new EngineControl();
        CHECK.same("RULES", Rig.build(x, "a=a+1;b=a*10;a=a+b;d=c;c=5"), 5);
        x.key(true);
        Rig.loops(x, 1);
        CHECK.same("a", x.about(72), 11);
        CHECK.same("b", x.about(73), 10);
        CHECK.same("d is what c was", x.about(75), 0);
        CHECK.same("c", x.about(74), 5);
        Rig.loops(x, 1);
        CHECK.same("a", x.about(72), 132);
        CHECK.same("d", x.about(75), 5);
    }

    // "OUTs are 0 at first (also behind OFF; ..)"
    private static void outsBehindOff() {
        EngineControl x = new EngineControl();
        Rig.build(x, "a=a+1;b=b-1;c=c+2;d=d-2");
        x.key(true);
        CHECK.same("before the first LOOP", x.about(72), 0);
        Rig.loops(x, 3);
        CHECK.same("a", x.about(72), 3);
        CHECK.same("b", x.about(73), -3);
        x.key(false);
        Rig.loops(x, 2);
        CHECK.same("in the AFTER-RUN, too", x.about(74), 10);
        CHECK.same("d", x.about(75), -10);
        x.cut(0);
        CHECK.same("OFF", x.about(72) + x.about(73) + x.about(74) + x.about(75), 0);
        x.key(true);
        Rig.loops(x, 1);
        CHECK.same("from 0 on", x.about(72), 1);
    }

    private static void fullProgram() {
        EngineControl x = new EngineControl();
        String text = "a=1" + times("+1", 98);
        CHECK.same("99 ones", Rig.build(x, text), 1);
        x.key(true);
        Rig.loops(x, 1);
        CHECK.same("99", x.about(72), 99);
        // Many open at a time, to the right: the stack is as deep as it can be.
        EngineControl y = new EngineControl();
        CHECK.same("deep", Rig.build(y, "a=" + times("1+(", 12) + "1*2+3*4" + times(")", 12)), 1);
        y.key(true);
        Rig.loops(y, 1);
        CHECK.same("26", y.about(72), 26);
    }
}
