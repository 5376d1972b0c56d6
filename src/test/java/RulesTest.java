/** Promises 43 unit, 44 build: the TEXT, its FAULTS, and what the RULES do. */
public final class RulesTest {
    private static final Check CHECK = new Check();

    public static void main(String[] args) {
        units();
        rightTexts();
        faults();
        depth();
        reckoning();
        inputs();
        whatOutsDo();
        staying();
        CHECK.end();
    }

    private static int build(EngineControl x, String text) {
        for (int i = 0; i < text.length(); i++) {
            x.unit(text.charAt(i));
        }
        return x.build();
    }

    private static void units() {
        EngineControl x = new EngineControl();
        CHECK.no("unit(31)", x.unit(31));
        CHECK.no("unit(127)", x.unit(127));
        CHECK.no("unit(-1)", x.unit(-1));
        CHECK.no("unit(65536 + 97)", x.unit(65536 + 97));
        CHECK.yes("unit(32)", x.unit(32));
        CHECK.yes("unit(126)", x.unit(126));
        CHECK.same("characters", x.about(77), 2);
        for (int i = 2; i < 200; i++) {
            CHECK.yes("there is room", x.unit('a'));
        }
        CHECK.no("200 at most", x.unit('a'));
        CHECK.same("characters", x.about(77), 200);
        x.key(true);
        x.cut(0);
        CHECK.same("the TEXT stays", x.about(77), 200);
        CHECK.same("build", x.build(), -2);
        CHECK.same("the TEXT is empty then", x.about(77), 0);
    }

    private static void rightTexts() {
        EngineControl x = new EngineControl();
        CHECK.same("one RULE", build(x, "a=1"), 1);
        CHECK.same("RULES", x.about(76), 1);
        CHECK.same("blanks", build(x, "  a  =  1  +  b ; b=s  "), 2);
        CHECK.same("eight RULES", build(x, "a=1;b=2;c=3;d=4;a=5;b=6;c=7;d=8"), 8);
        CHECK.same("a second comparison", build(x, "d=-(s+p*t/l-v)<k~1?2:3"), -17);
        CHECK.same("all there is", build(x, "d=-(s+p*t/l-v)<k?m>n?1:2:a~b?99999:(c)"), 1);
        CHECK.same("signs in a row", build(x, "a=1---1"), 1);
        CHECK.same("a NUMBER", build(x, "a=00000"), 1);
    }

    private static void fault(EngineControl x, String text, int place) {
        CHECK.same("FAULT of " + text, build(x, text), -1 - place);
    }

    private static void faults() {
        EngineControl x = new EngineControl();
        fault(x, "", 0);
        fault(x, "   ", 3);
        fault(x, "e=1", 0);
        fault(x, "s=1", 0);
        fault(x, "a", 1);
        fault(x, "a 1", 2);
        fault(x, "a=", 2);
        fault(x, "a= ", 3);
        fault(x, "a==1", 2);
        fault(x, "a=1;", 4);
        fault(x, "a=1;;b=2", 4);
        fault(x, "a=1 2", 4);
        fault(x, "a=123456", 7);
        fault(x, "a=x", 2);
        fault(x, "a=1+", 4);
        fault(x, "a=1+*2", 4);
        fault(x, "a=(1", 4);
        fault(x, "a=1)", 3);
        fault(x, "a=()", 3);
        fault(x, "a=1<2", 5);
        fault(x, "a=1<2?3", 7);
        fault(x, "a=1<2:3", 5);
        fault(x, "a=1?2:3", 3);
        fault(x, "a=1<2<3?4:5", 5);
        fault(x, "a=1<2?3:4:5", 9);
        fault(x, "a=1<2?3:4?5:6", 9);
        fault(x, "a=1=2", 3);
        fault(x, "a=A", 2);
        fault(x, "a=1;b=2;c=3;d=4;a=5;b=6;c=7;d=8;", 31);
        fault(x, "a=1;b=2;c=3;d=4;a=5;b=6;c=7;d=8;a=1", 31);
        fault(x, "a=1b=2", 3);
        CHECK.same("no PROGRAM", x.about(76), 0);
        build(x, "a=1;b=2");
        fault(x, "a=1;b", 5);
        CHECK.same("the PROGRAM stays", x.about(76), 2);
    }

    private static String times(String part, int n) {
        StringBuilder all = new StringBuilder();
        for (int i = 0; i < n; i++) {
            all.append(part);
        }
        return all.toString();
    }

    private static void depth() {
        CHECK.same("12 (", build(new EngineControl(), "a=" + times("(", 12) + "1" + times(")", 12)), 1);
        fault(new EngineControl(), "a=" + times("(", 13) + "1" + times(")", 13), 14);
        CHECK.same("12 -", build(new EngineControl(), "a=" + times("-", 12) + "1"), 1);
        fault(new EngineControl(), "a=" + times("-", 13) + "1", 14);
        CHECK.same("12 ? in the first CHOICE", build(new EngineControl(), "a=" + times("1<2?", 12) + "1" + times(":2", 12)), 1);
        fault(new EngineControl(), "a=" + times("1<2?", 13) + "1" + times(":2", 13), 2 + 48 + 3);
        CHECK.same("12 ? in the second CHOICE", build(new EngineControl(), "a=" + times("1<2?3:", 12) + "1"), 1);
        fault(new EngineControl(), "a=" + times("1<2?3:", 13) + "1", 2 + 72 + 3);
        CHECK.same("mixed", build(new EngineControl(), "a=" + times("-(1<2?", 4) + "1" + times(":2)", 4)), 1);
        fault(new EngineControl(), "a=" + times("-(1<2?", 4) + "-1" + times(":2)", 4), 26);
        CHECK.same("a - that has ended", build(new EngineControl(), "a=" + times("-1+", 20) + "1"), 1);
        CHECK.same("a ( that has ended", build(new EngineControl(), "a=" + times("(1)+", 20) + "1"), 1);
        fault(new EngineControl(), "a=" + times("(", 12) + "-1", 14);
        fault(new EngineControl(), "a=" + times("(", 12) + "1<2?3:4", 2 + 12 + 3);
        CHECK.same("1 - 2 counts nothing", build(new EngineControl(), "a=" + times("(", 12) + "1-2" + times(")", 12)), 1);
    }

    /** a of a RULE behind one LOOP. */
    private static void gives(String choice, long due) {
        EngineControl x = new EngineControl();
        CHECK.same(choice, build(x, "a=" + choice), 1);
        x.key(true);
        x.pass(10000);
        CHECK.same(choice, x.about(72), due);
    }

    private static void reckoning() {
        gives("12345", 12345);
        gives("2+3*4", 14);
        gives("(2+3)*4", 20);
        gives("10-3-2", 5);
        gives("100/10/5", 2);
        gives("7/2", 3);
        gives("-7/2", -3);
        gives("7/-2", -3);
        gives("7/0", 0);
        gives("0/0", 0);
        gives("2*-3", -6);
        gives("1---1", 0);
        gives("--5", 5);
        gives("1<2?10:20", 10);
        gives("2<1?10:20", 20);
        gives("2<2?10:20", 20);
        gives("2>1?10:20", 10);
        gives("2~2?10:20", 10);
        gives("2~3?10:20", 20);
        gives("1+1<3?10:20", 10);
        gives("1<2?3<4?5:6:7", 5);
        gives("1<2?3>4?5:6:7", 6);
        gives("1>2?3<4?5:6:7", 7);
        gives("1>2?3:4<5?6:7", 6);
        gives("(1<2?3:4)+1", 4);
        gives("99999*99999", 99999 * 99999);
        gives("-(65536*32768)/-1", Integer.MIN_VALUE);
        gives("65536*32768-1", Integer.MAX_VALUE);
    }

    private static void inputs() {
        EngineControl x = new EngineControl();
        x.car(0, 30000);
        x.key(true);
        build(x, "a=s;b=p;c=t;d=l");
        x.turn(60, 1000);
        x.turn(10, 1000);
        CHECK.same("s", x.about(72), 1000);
        CHECK.same("p", x.about(73), 60);
        CHECK.same("t", x.about(74), 49);
        CHECK.same("l", x.about(75), 500);
        build(x, "a=v;b=k;c=m;d=n");
        CHECK.same("a new PROGRAM leaves them", x.about(72), 1000);
        x.pass(10000);
        CHECK.same("v", x.about(72), 30000);
        CHECK.same("k", x.about(73), 512);
        CHECK.same("m", x.about(74), x.about(52));
        CHECK.same("n", x.about(75), x.about(11));
        build(x, "a=1;b=a+1;a=a+b*10;c=d-d");
        x.pass(10000);
        CHECK.same("RULES in turn", x.about(72), 21);
        CHECK.same("RULES in turn", x.about(73), 2);
        CHECK.same("RULES in turn", x.about(74), 0);
        build(x, "b=b+1");
        x.pass(50000);
        CHECK.same("OUTs are kept from LOOP to LOOP", x.about(73), 7);
        CHECK.same("an OUT without a RULE stays", x.about(72), 21);
    }

    private static void whatOutsDo() {
        EngineControl x = new EngineControl();
        x.calibrate(0, 1);
        build(x, "b=30");
        x.key(true);
        x.turn(240, 1000);
        CHECK.same("b is taken off ADVANCE", x.cylinder(0, 6), x.value(1, 1000, 60) - 30);
        build(x, "b=-30");
        x.turn(120, 1000);
        CHECK.same("0 at least", x.cylinder(0, 6), x.value(1, 1000, 60));
        build(x, "b=201");
        x.turn(120, 1000);
        CHECK.same("200 at most", x.cylinder(0, 6), Math.max(-100, x.value(1, 1000, 60) - 200));
        CHECK.same("no LAMP", x.about(38), 0);
        build(x, "c=-1");
        x.pass(10000);
        CHECK.same("the LAMP", x.about(38), 1);
        idle(0, 2 * 2);
        idle(64, 4 * 2);
        idle(1000, 8 * 2);
        idle(-1000, 0);
    }

    // IDLING grows by FLOOR((800 + a - SPEED) / 32) in each of two LOOPS; SPEED is 729 at pitch 1370.
    private static void idle(int a, int due) {
        EngineControl x = new EngineControl();
        x.pin(0, 20);
        x.pin(1, 20);
        x.calibrate(18, 1000);
        build(x, a < 0 ? "a=-" + -a : "a=" + a);
        x.key(true);
        x.turn(60, 1370);
        x.turn(1, 1370);
        long before = x.about(23);
        x.pass((int) (10000 - x.about(0) % 10000));
        x.pass(10000);
        CHECK.same("IDLING by a = " + a, x.about(23) - before, due);
    }

    private static void staying() {
        EngineControl x = new EngineControl();
        build(x, "a=n;c=5");
        x.key(true);
        x.pass(30000);
        CHECK.same("a", x.about(72), 3);
        x.cut(0);
        CHECK.same("OUTs are 0 behind OFF", x.about(72) + x.about(74) + x.about(38), 0);
        CHECK.same("the PROGRAM stays", x.about(76), 2);
        x.key(true);
        CHECK.same("till the LOOP", x.about(72), 0);
        x.pass(10000);
        CHECK.same("a", x.about(72), 1);
        x.key(false);
        x.pass(10000);
        CHECK.same("in the AFTER-RUN, too", x.about(72), 2);
    }
}
