import java.util.Arrays;

/**
 * An engine and its controller on one clock, as ../shared/DOC.md tells it.
 *
 * <p>The outer class has the face, the clock, and the order in which things are done; each class
 * inside holds one part of the state with the rules that need that part alone. All rows are made
 * once, in constructors, and used again, so that no call makes an object.
 */
public final class EngineControl {
    public static final int NONE = -1;
    public static final int OFF = 0, ON = 1, AFTER = 2;
    public static final int LOST = 0, SEEKING = 1, HALF = 2, FULL = 3;

    private static final int LOOP_TICKS = 10000;
    private static final long NEVER = 9223372036854775807L;
    // Far above what one passing of time can bring: 200 LOOPS and some 128 EVENTS.
    private static final int MOST_DUE = 1000000;
    private static final int AFTER_LOOPS = 100;
    private static final int PUMP_LOOPS = 200;
    private static final int SILENT_LOOPS = 500;
    private static final int MOST_CYLINDERS = 8;
    private static final int TWO_TURNS = 7200;
    private static final int ABOUTS = 80;

    // NUMBERS
    private static final int CYLINDERS = 0, FIRST = 1, STALL = 2, INJECTION = 3, DWELLMOST = 4, LIMIT = 5;
    private static final int HOTLIMIT = 6, LIMPLIMIT = 7, HOT = 8, IDLE = 9, QUICK = 10, RICHER = 11;
    private static final int STEP = 12, WARM = 13, FAN1 = 14, FAN2 = 15, P = 16, I = 17, APART = 18;
    private static final int LONG = 19, ROUGH = 20, KNOCKING = 21, BACK = 22, REST = 23;
    private static final int NUMBERS = 24;

    // CHANNELS, which are LINES too, and the LINES behind them
    private static final int PEDAL1 = 0, PEDAL2 = 1, PLATE1 = 2, PLATE2 = 3, PRESSURE = 4, COOLANT = 5;
    private static final int AIR = 6, LAMBDA = 7, BATTERY = 8, KNOCK = 9, CHANNELS = 10;
    private static final int WARMING = 10, DEAD = 11, DWELL = 12, LINES = 13;

    // EVENTS; the first three are also what may wait for an angle
    private static final int INJECT = 0, COIL = 1, SPARK = 2, INJECTOR_OFF = 3, COIL_CUTOFF = 4;

    // Rows of a cylinder's plan
    private static final int RETARD = 0, MISSES = 1, FUEL = 2, ADVANCE = 3;

    // Rows of a trouble's marks, as trouble() counts them, and OLD
    private static final int DEBOUNCE = 0, FAULTY = 1, PENDING = 2, CONFIRMED = 3, HEALED = 4, MET = 5;
    private static final int SEEN = 6, OLD = 7, MARKS = 8, TROUBLES = 28, MISFIRE = 20;

    // What a CRANK EDGE was
    private static final int HEARD = 0, RIGHT = 1, SLIPPED = 2;

    // Answers of a service: done, or one of the REFUSALS; NONE if a CUT took the answer away
    private static final int DONE = 0, NO_SERVICE = 0x11, WRONG_FORM = 0x12, NOT_NOW = 0x22, OUT_OF_TURN = 0x24;
    private static final int NOT_THERE = 0x31, NOT_OPEN = 0x33, WRONG_KEY = 0x35, LOCKED_OUT = 0x36, WRONG_SUM = 0x72;

    private final Memory memory = new Memory();
    private final Pins pins = new Pins();
    private final Crank crank = new Crank();
    private final Outputs outputs = new Outputs();
    private final Throttle throttle = new Throttle();
    private final Guard guard = new Guard();
    private final Troubles troubles = new Troubles();
    private final Tester tester = new Tester();
    private final Bus bus = new Bus();
    private final Bench bench = new Bench();
    private final Model model = new Model();
    private long time;
    private int power;
    private int after;
    private int loops;
    private int keyLoops;
    private boolean pump;

    public EngineControl() {
        time = 0;
        power = OFF;
    }

    // ==== The face: power and time

    public boolean key(boolean on) {
        if (on == (power == ON)) {
            return false;
        }
        if (!on) {
            allOff();
            after = 0;
            power = AFTER;
            return true;
        }
        if (power == OFF) {
            boot();
        }
        power = ON;
        keyLoops = 0;
        return true;
    }

    public int pass(int ticks) throws IllegalArgumentException {
        if (ticks < 0 || ticks > 2000000) {
            throw new IllegalArgumentException("ticks are 0 .. 2000000");
        }
        int before = outputs.edges;
        passTo(time + ticks);
        return outputs.edges - before;
    }

    public int tooth(int after) throws IllegalArgumentException {
        if (after < 1 || after > 1000000) {
            throw new IllegalArgumentException("after is 1 .. 1000000");
        }
        passTo(time + after);
        crankEdge();
        return crank.state;
    }

    public int cam(int after) throws IllegalArgumentException {
        if (after < 0 || after > 1000000) {
            throw new IllegalArgumentException("after is 0 .. 1000000");
        }
        passTo(time + after);
        camEdge();
        return crank.state;
    }

    public int turn(int places, int pitch) throws IllegalArgumentException {
        if (places < 1 || places > 240) {
            throw new IllegalArgumentException("places are 1 .. 240");
        }
        if (pitch < 20 || pitch > 100000) {
            throw new IllegalArgumentException("pitch is 20 .. 100000");
        }
        for (int i = 0; i < places; i++) {
            passTo(time + pitch);
            arrive();
        }
        return crank.state;
    }

    public int run(int places) throws IllegalArgumentException {
        if (places < 1 || places > 240) {
            throw new IllegalArgumentException("places are 1 .. 240");
        }
        for (int done = 0; done < places; done++) {
            int ticks = model.stepTicks();
            if (ticks == NONE) {
                return done;
            }
            passTo(time + ticks);
            arrive();
            pushWheel();
        }
        return places;
    }

    public int cut(int words) throws IllegalArgumentException {
        if (words < NONE || words > 1000) {
            throw new IllegalArgumentException("words are -1 .. 1000");
        }
        memory.armed = words > 0 ? words : NONE;
        if (words == 0) {
            goOff();
        }
        return power;
    }

    // ==== The face: the bench round the engine

    public boolean set(int which, boolean on) throws IndexOutOfBoundsException {
        if (which < 0 || which > 1) {
            throw new IndexOutOfBoundsException("which is 0 or 1");
        }
        boolean was = which == 0 ? model.starter : model.auto;
        if (which == 0) {
            model.starter = on;
        } else {
            model.auto = on;
        }
        return was != on;
    }

    public int load(int v) throws IllegalArgumentException {
        if (v < 0 || v > 400) {
            throw new IllegalArgumentException("v is 0 .. 400");
        }
        int was = model.load;
        model.load = v;
        return was;
    }

    public int pin(int channel, int raw) throws IndexOutOfBoundsException, IllegalArgumentException {
        if (channel < 0 || channel >= CHANNELS) {
            throw new IndexOutOfBoundsException("no such channel");
        }
        if (!isRaw(raw)) {
            throw new IllegalArgumentException("raw is 0 .. 1023");
        }
        int was = pins.raw[channel];
        pins.raw[channel] = raw;
        return was;
    }

    public void limits(int channel, int low, int high, int rate)
            throws IndexOutOfBoundsException, IllegalArgumentException, IllegalStateException {
        if (channel < 0 || channel >= CHANNELS) {
            throw new IndexOutOfBoundsException("no such channel");
        }
        if (!isRaw(low) || !isRaw(high) || !isRaw(rate) || low > high) {
            throw new IllegalArgumentException("limits are 0 .. 1023, low not above high");
        }
        if (power != OFF) {
            throw new IllegalStateException("the controller is not OFF");
        }
        pins.low[channel] = low;
        pins.high[channel] = high;
        pins.rate[channel] = rate;
    }

    public int car(int which, int v) throws IndexOutOfBoundsException, IllegalArgumentException {
        if (which < 0 || which > 1) {
            throw new IndexOutOfBoundsException("which is 0 or 1");
        }
        if (v < 0 || v > (which == 0 ? 30000 : 6)) {
            throw new IllegalArgumentException("V is 0 .. 30000, GEAR 0 .. 6");
        }
        int was = which == 0 ? model.v : model.gear;
        if (which == 0) {
            model.v = v;
        } else {
            model.gear = v;
        }
        return was;
    }

    public boolean brake(int contact, boolean on) throws IndexOutOfBoundsException {
        if (contact < 0 || contact > 1) {
            throw new IndexOutOfBoundsException("contact is 0 or 1");
        }
        boolean was = model.contacts[contact];
        model.contacts[contact] = on;
        return was != on;
    }

    public int press(int button) throws IndexOutOfBoundsException {
        if (button < 0 || button > 5) {
            throw new IndexOutOfBoundsException("button is 0 .. 5");
        }
        if (power == ON) {
            throttle.feelButton(button, model.v, mayHold());
        }
        return throttle.cruise;
    }

    // ==== The face: LINES, MAPS, NUMBERS

    public void line(int line, int x0, int v0, int x1, int v1)
            throws IndexOutOfBoundsException, IllegalArgumentException, IllegalStateException {
        if (line < 0 || line >= LINES) {
            throw new IndexOutOfBoundsException("no such line");
        }
        if (!Pins.isPoint(line, x0, v0) || !Pins.isPoint(line, x1, v1) || x0 >= x1) {
            throw new IllegalArgumentException("a point is not as said");
        }
        if (power != OFF) {
            throw new IllegalStateException("the controller is not OFF");
        }
        pins.lineSize[line] = 0;
        pins.addPoint(line, x0, v0);
        pins.addPoint(line, x1, v1);
    }

    public int point(int line, int x, int v)
            throws IndexOutOfBoundsException, IllegalArgumentException, IllegalStateException {
        if (line < 0 || line >= LINES) {
            throw new IndexOutOfBoundsException("no such line");
        }
        if (!Pins.isPoint(line, x, v) || x <= pins.lastX(line)) {
            throw new IllegalArgumentException("a point is not as said");
        }
        if (power != OFF || pins.lineSize[line] >= Pins.MOST_POINTS) {
            throw new IllegalStateException("the controller is not OFF, or there are 8 points");
        }
        pins.addPoint(line, x, v);
        return pins.lineSize[line];
    }

    public int lineAt(int line, int x) throws IndexOutOfBoundsException {
        if (line < 0 || line >= LINES) {
            throw new IndexOutOfBoundsException("no such line");
        }
        return pins.lineValue(line, x);
    }

    public void axis(int map, int which, int a, int b, int c, int d)
            throws IndexOutOfBoundsException, IllegalArgumentException, IllegalStateException {
        if (map < 0 || map > 1 || which < 0 || which > 1) {
            throw new IndexOutOfBoundsException("no such map or axis");
        }
        if (a < 0 || d > 10000 || a >= b || b >= c || c >= d) {
            throw new IllegalArgumentException("points rise from 0 to 10000");
        }
        if (power != OFF) {
            throw new IllegalStateException("the controller is not OFF");
        }
        int[] points = memory.axes[2 * map + which];
        points[0] = a;
        points[1] = b;
        points[2] = c;
        points[3] = d;
    }

    public int cell(int map, int i, int j, int v)
            throws IndexOutOfBoundsException, IllegalArgumentException, IllegalStateException {
        if (map < 0 || map > 1 || i < 0 || i > 3 || j < 0 || j > 3) {
            throw new IndexOutOfBoundsException("no such cell");
        }
        if (!Memory.isCell(map, v)) {
            throw new IllegalArgumentException("v can't be in this map");
        }
        if (power != OFF) {
            throw new IllegalStateException("the controller is not OFF");
        }
        int was = memory.cells[map][4 * i + j];
        memory.cells[map][4 * i + j] = v;
        return was;
    }

    public int value(int map, int x, int y) throws IndexOutOfBoundsException {
        if (map < 0 || map > 1) {
            throw new IndexOutOfBoundsException("no such map");
        }
        return memory.mapValue(map, x, y);
    }

    public int calibrate(int k, int v)
            throws IndexOutOfBoundsException, IllegalArgumentException, IllegalStateException {
        if (k < 0 || k >= NUMBERS) {
            throw new IndexOutOfBoundsException("no such number");
        }
        if (!Memory.isNumber(k, v)) {
            throw new IllegalArgumentException("v is not from the least to the greatest");
        }
        if (power != OFF) {
            throw new IllegalStateException("the controller is not OFF");
        }
        int was = memory.numbers[k];
        memory.numbers[k] = v;
        return was;
    }

    // ==== The face: STORE, the BOOK, the LOCK

    public int spoil(int copy, int i, int v) throws IndexOutOfBoundsException, IllegalStateException {
        if (copy < 0 || copy > 1 || i < 0 || i >= Memory.STORE_WORDS) {
            throw new IndexOutOfBoundsException("no such word");
        }
        if (power != OFF) {
            throw new IllegalStateException("the controller is not OFF");
        }
        int was = memory.store[copy][i];
        memory.store[copy][i] = v;
        memory.lookOver(Memory.STORE);
        return was;
    }

    public int word(int copy, int i) throws IndexOutOfBoundsException {
        if (copy < 0 || copy > 1 || i < 0 || i >= Memory.STORE_WORDS) {
            throw new IndexOutOfBoundsException("no such word");
        }
        return memory.store[copy][i];
    }

    public int page(int copy, int i) throws IndexOutOfBoundsException {
        if (copy < 0 || copy > 1 || i < 0 || i >= Memory.BOOK_WORDS) {
            throw new IndexOutOfBoundsException("no such word");
        }
        return memory.book[copy][i];
    }

    public int tear(int copy, int i, int v) throws IndexOutOfBoundsException, IllegalStateException {
        if (copy < 0 || copy > 1 || i < 0 || i >= Memory.BOOK_WORDS) {
            throw new IndexOutOfBoundsException("no such word");
        }
        if (power != OFF) {
            throw new IllegalStateException("the controller is not OFF");
        }
        int was = memory.book[copy][i];
        memory.book[copy][i] = v;
        memory.lookOver(Memory.BOOK);
        return was;
    }

    public int lock(int code) throws IllegalStateException {
        if (power != OFF) {
            throw new IllegalStateException("the controller is not OFF");
        }
        int was = bus.code;
        bus.code = code;
        return was;
    }

    // ==== The face: WATCH, the tester, the BUS

    public boolean watch(boolean on) throws IllegalStateException {
        if (power != ON) {
            throw new IllegalStateException("the controller is not ON");
        }
        boolean was = guard.armed;
        guard.arm(on);
        return was != on;
    }

    public boolean answer(int v) throws IllegalStateException {
        if (!guard.armed) {
            throw new IllegalStateException("WATCH is not armed");
        }
        guard.answered = v == (guard.question * guard.question + 7) % 16;
        return guard.answered;
    }

    public int hear(int b, int after) throws IllegalArgumentException {
        if (after < 0 || after > 1000000) {
            throw new IllegalArgumentException("after is 0 .. 1000000");
        }
        passTo(time + after);
        listen(b & 255);
        return tester.outSize;
    }

    public int ask(int n, int a, int b, int c, int d, int e) throws IllegalArgumentException {
        if (n < 1 || n > 5) {
            throw new IllegalArgumentException("n is 1 .. 5");
        }
        int sum = 0;
        for (int i = 0; i < n + 4; i++) {
            int data = i == 3 ? a : i == 4 ? b : i == 5 ? c : i == 6 ? d : e;
            int heard = i == 0 ? 128 + n : i == 1 ? 17 : i == 2 ? 241 : i < n + 3 ? data & 255 : sum & 255;
            passTo(time + (i == 0 ? 30000 : 1000));
            listen(heard);
            sum += heard;
        }
        return tester.outSize;
    }

    public int byteOf(int i) throws IndexOutOfBoundsException {
        if (i < 0 || i >= tester.outSize || i >= Tester.ROOM) {
            throw new IndexOutOfBoundsException("no such byte");
        }
        return tester.out[i];
    }

    public int drain() {
        int had = tester.outSize;
        tester.outSize = 0;
        return had;
    }

    public boolean frameComes(int identifier, int high, int low) throws IllegalArgumentException {
        if (identifier < 0 || identifier > 2047) {
            throw new IllegalArgumentException("identifier is 0 .. 2047");
        }
        if (power == OFF || bus.mute) {
            return false;
        }
        if (identifier == Bus.ALLOWING) {
            return bus.hearAllowed(high, low);
        }
        return identifier == Bus.UNLOCKING && bus.hearUnlock(high);
    }

    public int sent(int i, int what) throws IndexOutOfBoundsException {
        if (i < 0 || i >= Math.min(bus.sentEver, Bus.KEPT) || what < 0 || what > 2) {
            throw new IndexOutOfBoundsException("no such frame or what");
        }
        return bus.sentNumber(i, what);
    }

    public int noise(int n) throws IllegalArgumentException {
        if (n < 0 || n > 300) {
            throw new IllegalArgumentException("n is 0 .. 300");
        }
        if (power != OFF) {
            bus.disturb(n);
        }
        return bus.errors;
    }

    // ==== The face: RULES and the RECORDER

    public boolean unit(int u) {
        return bench.addUnit(u);
    }

    public int build() {
        return bench.readText();
    }

    public void record(int every, int a, int b, int c) throws IndexOutOfBoundsException, IllegalArgumentException {
        if (a < 0 || a >= ABOUTS || b < 0 || b >= ABOUTS || c < 0 || c >= ABOUTS) {
            throw new IndexOutOfBoundsException("about() has no such number");
        }
        if (every < 1 || every > 100) {
            throw new IllegalArgumentException("every is 1 .. 100");
        }
        bench.beginRows(every, a, b, c);
    }

    public long row(int i, int what) throws IndexOutOfBoundsException {
        if (i < 0 || i >= bench.rowCount || what < 0 || what > 2) {
            throw new IndexOutOfBoundsException("no such row or what");
        }
        return bench.rows[what][(bench.rowStart + i) % Bench.ROWS_KEPT];
    }

    // ==== The face: what is told

    public long about(int what) throws IndexOutOfBoundsException {
        if (what < 0 || what >= ABOUTS) {
            throw new IndexOutOfBoundsException("no such what");
        }
        return tell(what);
    }

    public int channel(int channel, int what) throws IndexOutOfBoundsException {
        if (channel < 0 || channel >= CHANNELS || what < 0 || what > 3) {
            throw new IndexOutOfBoundsException("no such channel or what");
        }
        switch (what) {
            case 0: return pins.raw[channel];
            case 1: return pins.reading[channel];
            case 2: return pins.counter[channel];
            default: return bit(pins.failing[channel]);
        }
    }

    public int cylinder(int c, int what) throws IndexOutOfBoundsException {
        if (c < 0 || c >= memory.numbers[CYLINDERS] || c >= MOST_CYLINDERS || what < 0 || what > 7) {
            throw new IndexOutOfBoundsException("no such cylinder or what");
        }
        switch (what) {
            case 0: return topOf(c);
            case 1: return crank.plan[RETARD][c];
            case 2: return crank.plan[MISSES][c];
            case 3: return bit(outputs.injector[c]);
            case 4: return bit(outputs.coil[c]);
            case 5: return crank.plan[FUEL][c];
            case 6: return crank.plan[ADVANCE][c];
            default: return crank.waitingBits(c);
        }
    }

    public long edge(int i, int what) throws IndexOutOfBoundsException {
        if (i < 0 || i >= Math.min(outputs.edges, Outputs.LOGGED) || what < 0 || what > 2) {
            throw new IndexOutOfBoundsException("no such edge or what");
        }
        return outputs.edgeNumber(i, what);
    }

    public int trouble(int k, int what) throws IndexOutOfBoundsException {
        if (k < 0 || k >= TROUBLES || what < 0 || what > SEEN) {
            throw new IndexOutOfBoundsException("no such trouble or what");
        }
        return troubles.mark[what][k];
    }

    public int frame(int what) throws IndexOutOfBoundsException {
        if (what < 0 || what > 7) {
            throw new IndexOutOfBoundsException("no such what");
        }
        return troubles.framed ? troubles.frame[what] : NONE;
    }

    public long comes(int angle) throws IllegalArgumentException, IllegalStateException {
        if (angle < 0 || angle >= TWO_TURNS) {
            throw new IllegalArgumentException("angle is 0 .. 7199");
        }
        if (crank.state != FULL) {
            throw new IllegalStateException("STATE is not FULL");
        }
        return crank.comesAt(angle);
    }

    // ==== Small help

    private static int clip(long v, int low, int high) {
        return v < low ? low : v > high ? high : (int) v;
    }

    private static int bit(boolean truth) {
        return truth ? 1 : 0;
    }

    private static boolean isRaw(int v) {
        return v >= 0 && v <= 1023;
    }

    // ==== Power and time

    private void boot() {
        loops = 0;
        model.boots++;
        int copy = memory.valid[Memory.STORE];
        if (copy == 0 || copy == 1) {
            troubles.takeOver(memory.store[copy]);
            guard.takeOver(memory.store[copy]);
        }
        memory.takeOverMaps();
        bus.bar(model.boots);
        bench.dBefore = 0;
    }

    private void goOff() {
        power = OFF;
        after = 0;
        loops = 0;
        keyLoops = 0;
        pump = false;
        pins.reset();
        crank.reset();
        outputs.reset();
        throttle.reset();
        guard.reset();
        troubles.reset();
        tester.reset();
        bus.reset();
        bench.reset();
    }

    private void allOff() {
        crank.forgetPlans();
        outputs.stopAll(time);
    }

    private void passTo(long target) {
        for (int i = 0; i < MOST_DUE && power != OFF; i++) {
            long loopAt = (time / LOOP_TICKS + 1) * LOOP_TICKS;
            int next = outputs.nextEvent();
            long eventAt = next == NONE ? NEVER : outputs.eventTime[next];
            // At one time the LOOP goes first.
            boolean eventFirst = eventAt < loopAt;
            if ((eventFirst ? eventAt : loopAt) > target) {
                break;
            }
            if (eventFirst) {
                time = eventAt;
                outputs.happen(next, memory.numbers[DWELLMOST]);
            } else {
                time = loopAt;
                oneLoop();
            }
        }
        time = target;
    }

    private void oneLoop() {
        loops++;
        boolean first = loops == 1;
        if (power == ON) {
            keyLoops++;
        }
        model.roll();                                                         // 0.
        throttle.feelBrake(model.contacts[0] != model.contacts[1]);
        if (model.auto) {                                                     // 1.
            moveModelPins();
        }
        pins.readAll(first);
        lookForStall();                                                       // 2.
        throttle.readPedals(pins);                                            // 3.
        if (throttle.readPlates(pins)) {
            guard.limp = true;
        }
        throttle.enrich(first, memory.numbers[QUICK], memory.numbers[RICHER]); // 4.
        idle();                                                               // 5.
        cruise();                                                             // 5a.
        driveThrottle();                                                      // 6.
        guard.lookAgain(power == ON, throttle.error, memory.numbers[APART], memory.numbers[LONG]); // 7.
        if (guard.tickWatch()) {                                              // 8.
            allOff();
        }
        guard.feelHeat(pins.reading[COOLANT], memory.numbers);                // 9.
        trimMixture();                                                        // 10.
        pump = power == ON && (keyLoops <= PUMP_LOOPS || crank.state >= HALF); // 11.
        testChannels();                                                       // 12.
        testRest();
        setRuleInputs();                                                      // 12a.
        bench.followProgram();
        recordRow();                                                          // 12b.
        tester.tick();                                                        // 13.
        useBus();                                                             // 13a.
        if (power == AFTER) {                                                 // 14.
            countAfterRun();
        }
    }

    private void countAfterRun() {
        after++;
        if (after < AFTER_LOOPS) {
            return;
        }
        troubles.endCycle();
        writeStore();
        goOff();
    }

    // ==== The wheel, plans

    private void arrive() {
        model.where = (model.where + 1) % 120;
        if (model.where % 60 <= 57) {
            crankEdge();
        }
        if (model.where == 15) {
            camEdge();
        }
    }

    private void camEdge() {
        if (power != OFF && crank.hearCam()) {
            allOff();
        }
    }

    private void crankEdge() {
        if (power == OFF) {
            return;
        }
        int heard = crank.hearTooth(time);
        if (heard == SLIPPED) {
            allOff();
        }
        if (heard != RIGHT || power != ON) {
            return;
        }
        findLimit();
        int cylinders = memory.numbers[CYLINDERS];
        for (int c = 0; c < cylinders && c < MOST_CYLINDERS; c++) {
            if (crank.standsFor(topOf(c) - 1800)) {
                planCylinder(c);
            }
        }
        for (int c = 0; c < cylinders && c < MOST_CYLINDERS; c++) {
            putWaiting(c);
        }
    }

    private int topOf(int c) {
        int cylinders = memory.numbers[CYLINDERS];
        int share = cylinders > 0 ? TWO_TURNS * c / cylinders : 0;
        return (memory.numbers[FIRST] + share) % TWO_TURNS;
    }

    private void findLimit() {
        int which = guard.limp ? LIMPLIMIT : guard.hot ? HOTLIMIT : LIMIT;
        crank.nowLimit = memory.numbers[which];
        if (crank.speed >= crank.nowLimit) {
            crank.cutting = true;
        } else if (crank.speed < crank.nowLimit - 200) {
            crank.cutting = false;
        }
    }

    private void planCylinder(int c) {
        int[] numbers = memory.numbers;
        crank.countMiss(c, time);
        if (crank.segments == 0) {
            testMisfires();
        }
        int retard = crank.plan[RETARD][c];
        boolean knocks = pins.reading[KNOCK] >= numbers[KNOCKING];
        crank.plan[RETARD][c] = clip(knocks ? retard + numbers[BACK] : retard - 1, 0, 150);
        crank.plan[FUEL][c] = fuelNow();
        crank.plan[ADVANCE][c] = advanceNow(crank.plan[RETARD][c]);
        int dwell = pins.lineValue(DWELL, pins.reading[BATTERY]);
        crank.awaitAngles(c, topOf(c), numbers[INJECTION], dwell);
    }

    private void testMisfires() {
        int cylinders = memory.numbers[CYLINDERS];
        for (int c = 0; c < cylinders && c < MOST_CYLINDERS; c++) {
            boolean rough = crank.plan[MISSES][c] > memory.numbers[ROUGH];
            judge(MISFIRE + c, rough, !rough);
        }
        Arrays.fill(crank.plan[MISSES], 0);
    }

    private int fuelNow() {
        if (crank.cutting || guard.shut || bus.barred) {
            return 0;
        }
        long v = memory.mapValue(0, crank.speed, pins.reading[PRESSURE]);
        v = Math.floorDiv(v * pins.lineValue(WARMING, pins.reading[COOLANT]), 1000L);
        v = Math.floorDiv(v * (1000 + throttle.rich), 1000L);
        v = Math.floorDiv(v * (1000 + guard.shortTrim + guard.longTrim[cellAtHand()]), 1000L);
        if (v > 0) {
            v += pins.lineValue(DEAD, pins.reading[BATTERY]);
        }
        return clip(v, 0, 25000);
    }

    private int advanceNow(int retard) {
        long v = memory.mapValue(1, crank.speed, pins.reading[PRESSURE]);
        int soft = Math.floorDiv(crank.speed - crank.nowLimit + 300, 4);
        v -= retard + clip(bench.outs[1], 0, 200);
        if (soft > 0) {
            v -= soft;
        }
        return clip(v, -100, 450);
    }

    private void putWaiting(int c) {
        for (int kind = INJECT; kind <= SPARK; kind++) {
            int angle = crank.waits[kind][c];
            if (angle != NONE && crank.standsFor(angle)) {
                crank.waits[kind][c] = NONE;
                outputs.put(crank.comesAt(angle), kind, c, crank.plan[FUEL][c]);
            }
        }
    }

    // Always 0 .. 15, so it is an index of LONG.
    private int cellAtHand() {
        int pressure = pins.reading[PRESSURE];
        int bySpeed = crank.speed >= 4500 ? 3 : crank.speed / 1500;
        int byPressure = pressure < 0 ? 0 : pressure >= 90 ? 3 : pressure / 30;
        return 4 * bySpeed + byPressure;
    }

    // ==== The steps of the LOOP that need more than one part

    private void moveModelPins() {
        model.moveFlap(throttle.powered, throttle.duty);
        if (loops % 50 == 0) {
            model.warm(guard.fan1);
        }
        pins.raw[PLATE1] = model.flap * 1023 / 1000;
        pins.raw[PLATE2] = pins.raw[PLATE1];
        int p = Math.max(12, 30 + model.flap * 70 / 1000 - model.rpm / 200);
        pins.raw[PRESSURE] = (p - 10) * 1023 / 100;
        pins.raw[COOLANT] = (140 - model.heat) * 1023 / 180;
    }

    private void lookForStall() {
        if (crank.state != LOST && time - crank.last >= memory.numbers[STALL]) {
            crank.lose();
            allOff();
        }
    }

    private void idle() {
        boolean wanted = power == ON && throttle.pedal <= memory.numbers[REST] && crank.state >= HALF && !guard.limp;
        int wish = memory.numbers[IDLE] + clip(bench.outs[0], -200, 200);
        throttle.idling = wanted
            ? clip(throttle.idling + Math.floorDiv(wish - crank.speed, 32), 0, 250)
            : Math.max(0, throttle.idling - 1);
    }

    private boolean isBraking() {
        return model.contacts[0] || model.contacts[1] || throttle.unsure;
    }

    private boolean mayHold() {
        return model.v >= 3000 && model.gear >= 3 && !isBraking() && !guard.limp && !guard.shut;
    }

    private void cruise() {
        boolean fit = power == ON && model.v >= 2500 && model.gear >= 3;
        throttle.holdRoadSpeed(fit && !isBraking() && !guard.limp && !guard.shut, model.v);
    }

    private void driveThrottle() {
        throttle.powered = power == ON && !guard.limp && !guard.shut;
        if (throttle.powered) {
            throttle.drive(bus.allowed, memory.numbers[P], memory.numbers[I]);
        } else {
            throttle.letGo();
        }
    }

    private void trimMixture() {
        boolean before = guard.closed;
        guard.closed = power == ON && crank.state == FULL && pins.reading[COOLANT] >= memory.numbers[WARM]
            && !pins.failing[LAMBDA] && !crank.cutting && !guard.shut
            && crank.speed >= 500 && crank.speed <= 4500 && throttle.rich == 0;
        if (guard.closed) {
            guard.trim(before, pins.reading[LAMBDA] > 450, cellAtHand(), memory.numbers[STEP]);
        } else {
            guard.relax();
        }
    }

    private void setRuleInputs() {
        int[] inputs = bench.inputs;
        inputs[0] = crank.speed;
        inputs[1] = pins.reading[PRESSURE];
        inputs[2] = pins.reading[COOLANT];
        inputs[3] = throttle.plate;
        inputs[4] = model.v;
        inputs[5] = pins.reading[KNOCK];
        inputs[6] = model.metres;
        inputs[7] = loops;
    }

    private void recordRow() {
        if (bench.runs && bench.every > 0 && loops % bench.every == 0) {
            // The row itself is not yet counted among what it tells.
            int slot = bench.nextSlot();
            for (int i = 0; i < 3; i++) {
                bench.rows[i][slot] = tell(bench.whats[i]);
            }
            bench.keepRow();
        }
        bench.watchTrigger();
    }

    // ==== Trouble

    private void testChannels() {
        for (int c = 0; c < CHANNELS; c++) {
            judge(c, pins.failing[c], pins.counter[c] == 0);
        }
        boolean pedalsHear = !pins.failing[PEDAL1] && !pins.failing[PEDAL2];
        boolean platesHear = !pins.failing[PLATE1] && !pins.failing[PLATE2];
        judge(10, throttle.pedals >= 10, throttle.pedals == 0 && pedalsHear);
        judge(11, throttle.plates >= 10, throttle.plates == 0 && platesHear);
    }

    private void testRest() {
        boolean inStep = crank.state == FULL;
        judge(12, guard.lookFailed, guard.looked && guard.far == 0);
        judge(13, guard.shut, guard.armed && guard.wrong == 0);
        judge(14, guard.hot, true);
        judge(15, crank.slips > troubles.slipsBefore, inStep);
        boolean camBad = crank.missed >= 3 || crank.wrongCam > troubles.wrongCamBefore;
        judge(16, camBad, inStep && crank.missed == 0);
        judge(17, guard.same >= 1000, guard.closed && guard.same == 0);
        int whole = guard.shortTrim + guard.longTrim[cellAtHand()];
        judge(18, guard.closed && Math.abs(whole) >= 240, guard.closed);
        judge(19, outputs.cutoffs > troubles.cutoffsBefore, outputs.sparks > troubles.sparksBefore);
        troubles.slipsBefore = crank.slips;
        troubles.wrongCamBefore = crank.wrongCam;
        troubles.cutoffsBefore = outputs.cutoffs;
        troubles.sparksBefore = outputs.sparks;
    }

    private void judge(int k, boolean fails, boolean passes) {
        if (k < 0 || k >= TROUBLES) {
            return;
        }
        if (fails) {
            if (troubles.countFail(k) && !troubles.framed) {
                troubles.framed = true;
                fillView(k, troubles.frame);
            }
        } else if (passes) {
            troubles.countPass(k);
        }
    }

    // The numbers of a FRAME, as they are now.
    private void fillView(int k, int[] view) {
        if (view.length < 8) {
            return;
        }
        view[0] = k;
        view[1] = crank.speed;
        view[2] = pins.reading[PRESSURE];
        view[3] = pins.reading[COOLANT];
        view[4] = throttle.plate;
        view[5] = guard.shortTrim;
        view[6] = guard.longTrim[cellAtHand()];
        view[7] = loops;
    }

    private boolean isLampOn() {
        return bench.outs[2] != 0 || troubles.lights();
    }

    // False if an armed CUT came behind one of the words.
    private boolean writeStore() {
        troubles.fill(memory.draft);
        guard.fill(memory.draft);
        boolean whole = memory.writeCopy(Memory.STORE);
        memory.lookOver(Memory.STORE);
        return whole;
    }

    private boolean writeBook() {
        System.arraycopy(memory.cells[0], 0, memory.draft, 1, 16);
        System.arraycopy(memory.cells[1], 0, memory.draft, 17, 16);
        boolean whole = memory.writeCopy(Memory.BOOK);
        memory.lookOver(Memory.BOOK);
        return whole;
    }

    // ==== The BUS

    private void useBus() {
        bus.tick();
        if (!bus.mute) {
            if (loops % 2 == 0) {
                sendMotion();
            }
            if (loops % 10 == 0) {
                sendState();
            }
            if (loops % 50 == 0 && bus.barred) {
                bus.send(Bus.CHALLENGING, bus.challenge, 0);
            }
        }
        bus.tickSince();
    }

    private void sendMotion() {
        int speed = clip(crank.speed * 4L, 0, 65535);
        int plate = clip(throttle.plate / 4, 0, 255);
        int pedal = clip(throttle.pedal / 4, 0, 255);
        int flags = bit(guard.limp) + 2 * bit(guard.shut) + 4 * bit(crank.cutting) + 8 * bit(isBraking())
            + 16 * bit(throttle.cruise == Throttle.HOLDING);
        bus.send(Bus.MOTION, speed << 16 | plate << 8 | pedal, flags << 16 | model.v / 200 << 8 | bus.motionCount);
        bus.motionCount = (bus.motionCount + 1) % 16;
    }

    private void sendState() {
        int coolant = clip(pins.reading[COOLANT] + 40, 0, 255);
        int used = (int) (outputs.used / 1000) & 65535;
        int metres = model.metres & 65535;
        int lights = 128 * bit(isLampOn()) + bit(guard.fan1) + 2 * bit(guard.fan2);
        bus.send(Bus.STATE, coolant << 24 | used << 8 | metres >> 8,
            (metres & 255) << 16 | lights << 8 | bus.stateCount);
        bus.stateCount = (bus.stateCount + 1) % 16;
    }

    // ==== The tester's line

    private void listen(int b) {
        if (power == OFF || !tester.take(b, time) || !tester.hasRequest()) {
            return;
        }
        tester.silent = 0;
        tester.dataSize = 0;
        int answer = serve();
        if (answer != NONE) {
            tester.reply(answer);
        }
    }

    private int serve() {
        int service = tester.row[3];
        int form = Tester.lengthDue(service);
        if (form == NONE) {
            return NO_SERVICE;
        }
        if (form != Tester.ANY_LENGTH && form != (tester.row[0] & 63)) {
            return WRONG_FORM;
        }
        switch (service) {
            case 0x81: return tester.beginSession();
            case 0x82: return tester.leaveSession();
            case 0x3E: return tester.say(0x7E);
            case 0x01: return servePid(tester.row[4]);
            case 0x02: return serveFrame(tester.row[4], tester.row[5]);
            case 0x03: return serveCodes(0x43, CONFIRMED);
            case 0x07: return serveCodes(0x47, PENDING);
            case 0x04: return serveClear();
            case 0x09: return serveType(tester.row[4]);
            case 0x21: return serveNumber(tester.row[4]);
            case 0x27: return tester.serveLock(loops);
            case 0x3B: return serveCalibration(tester.row[4]);
            case 0x34: return serveLoading(tester.row[4]);
            case 0x36: return tester.servePlace();
            case 0x37: return serveBook();
            default: return NO_SERVICE;
        }
    }

    private int servePid(int pid) {
        tester.say(0x41);
        tester.say(pid);
        fillView(0, tester.view);
        if (tester.describe(pid, tester.view)) {
            return DONE;
        }
        switch (pid) {
            case 0: return tester.sayPids();
            case 1: return tester.sayFour((128L * bit(isLampOn()) + troubles.countOf(CONFIRMED)) << 24);
            case 3: return tester.sayTwo(mixtureState() << 8);
            case 14: return tester.sayByte(128L + Math.floorDiv(crank.plan[ADVANCE][0], 5));
            case 15: return tester.sayByte(pins.reading[AIR] + 40L);
            case 20:
                tester.sayByte(pins.reading[LAMBDA] / 5);
                return tester.say(255);
            case 28: return tester.say(6);
            case 31: return tester.sayTwo(loops / 100);
            default: return WRONG_FORM;
        }
    }

    private int mixtureState() {
        if (crank.state < HALF) {
            return 0;
        }
        return pins.failing[LAMBDA] ? 8 : crank.cutting ? 4 : guard.closed ? 2 : 1;
    }

    private int serveFrame(int pid, int third) {
        tester.say(0x42);
        tester.say(pid);
        tester.say(0);
        boolean there = tester.describe(pid, troubles.frame);
        if (pid == 2) {
            tester.sayTwo(Troubles.codeOf(troubles.frame[0]));
        } else if (!there) {
            return WRONG_FORM;
        }
        if (third != 0) {
            return WRONG_FORM;
        }
        return troubles.framed ? DONE : NOT_NOW;
    }

    private int serveCodes(int first, int mark) {
        tester.say(first);
        for (int k = 0; k < TROUBLES; k++) {
            if (troubles.mark[mark][k] != 0) {
                tester.sayTwo(Troubles.codeOf(k));
            }
        }
        return DONE;
    }

    private int serveClear() {
        if (crank.speed > 0) {
            return NOT_NOW;
        }
        troubles.clearMarks();
        guard.shortTrim = 0;
        Arrays.fill(guard.longTrim, 0);
        if (!writeStore()) {
            goOff();
            return NONE;
        }
        return tester.say(0x44);
    }

    private int serveType(int type) {
        tester.say(0x49);
        tester.say(type);
        switch (type) {
            case 0: return tester.sayFour(0x44000000L);
            case 2: return tester.sayName();
            case 6: return tester.sayFour(memory.numbersSum());
            default: return WRONG_FORM;
        }
    }

    private int serveNumber(int k) {
        if (k < 0 || k >= NUMBERS) {
            return NOT_THERE;
        }
        tester.say(0x61);
        tester.say(k);
        tester.say(memory.numbers[k] >> 16);
        return tester.sayTwo(memory.numbers[k] & 65535);
    }

    private int serveCalibration(int k) {
        if (!tester.open) {
            return NOT_OPEN;
        }
        if (crank.state != LOST) {
            return NOT_NOW;
        }
        int v = tester.row[5] << 16 | tester.row[6] << 8 | tester.row[7];
        if (k < 0 || k >= NUMBERS || !Memory.isNumber(k, v)) {
            return NOT_THERE;
        }
        memory.numbers[k] = v;
        tester.say(0x7B);
        return tester.say(k);
    }

    private int serveLoading(int map) {
        if (!tester.open) {
            return NOT_OPEN;
        }
        if (crank.state != LOST) {
            return NOT_NOW;
        }
        if (map < 0 || map > 1) {
            return NOT_THERE;
        }
        tester.loading = map;
        tester.place = 0;
        tester.say(0x74);
        return tester.say(map);
    }

    private int serveBook() {
        int map = tester.loading;
        if (map < 0 || map > 1 || tester.place < 16) {
            return OUT_OF_TURN;
        }
        tester.loading = NONE;
        if (!tester.sumIsRight()) {
            return WRONG_SUM;
        }
        System.arraycopy(tester.loaded, 0, memory.cells[map], 0, 16);
        if (!writeBook()) {
            goOff();
            return NONE;
        }
        return tester.say(0x77);
    }

    // ==== The MODEL's own turning

    private void pushWheel() {
        int cylinders = memory.numbers[CYLINDERS];
        for (int c = 0; c < cylinders && c < MOST_CYLINDERS; c++) {
            if (model.where == topOf(c) / 60) {
                model.speedUp(outputs.takeStroke(c));
            }
        }
        if (model.where % 10 == 0) {
            model.slowDown();
        }
    }

    // ==== What about() tells

    private long tell(int what) {
        if (what < 20) {
            return tellWheel(what);
        }
        if (what < 36) {
            return tellLoop(what);
        }
        if (what < 50) {
            return tellKept(what);
        }
        return what < 64 ? tellCar(what) : tellBench(what);
    }

    private long tellWheel(int what) {
        switch (what) {
            case 0: return time;
            case 1: return power;
            case 2: return crank.state;
            case 3: return crank.state >= HALF ? crank.tooth : 0;
            case 4: return crank.state >= HALF ? crank.turn : 0;
            case 5: return crank.pitch;
            case 6: return crank.speed;
            case 7: return crank.slips;
            case 8: return crank.missed;
            case 9: return crank.wrongCam;
            case 10: return crank.turns;
            case 11: return loops;
            case 12: return outputs.events;
            case 13: return outputs.over;
            case 14: return outputs.edges;
            case 15: return outputs.sparks;
            case 16: return outputs.cutoffs;
            case 17: return crank.segments;
            case 18: return crank.nowLimit;
            default: return bit(crank.cutting);
        }
    }

    private long tellLoop(int what) {
        switch (what) {
            case 20: return throttle.pedal;
            case 21: return throttle.plate;
            case 22: return throttle.rich;
            case 23: return throttle.idling;
            case 24: return throttle.target;
            case 25: return throttle.duty;
            case 26: return throttle.sum;
            case 27: return bit(guard.limp);
            case 28: return bit(guard.shut);
            case 29: return bit(guard.hot);
            case 30: return bit(guard.fan1) + 2 * bit(guard.fan2);
            case 31: return bit(guard.closed);
            case 32: return guard.shortTrim;
            case 33: return cellAtHand();
            case 34: return guard.longTrim[cellAtHand()];
            default: return bit(pump);
        }
    }

    private long tellKept(int what) {
        switch (what) {
            case 36: return guard.armed ? guard.question : 0;
            case 37: return guard.wrong;
            case 38: return bit(isLampOn());
            case 39: return troubles.cycles;
            case 40: return bit(tester.session);
            case 41: return bit(tester.open);
            case 42: return tester.noise;
            case 43: return tester.outSize;
            case 44: return model.rpm;
            case 45: return model.where;
            case 46: return model.flap;
            case 47: return model.heat;
            case 48: return memory.written;
            default: return memory.heads[Memory.STORE];
        }
    }

    private long tellCar(int what) {
        switch (what) {
            case 50: return model.v;
            case 51: return model.gear;
            case 52: return model.metres;
            case 53: return bit(isBraking());
            case 54: return bit(throttle.unsure);
            case 55: return throttle.cruise;
            case 56: return throttle.wish;
            case 57: return throttle.cruising;
            case 58: return bus.allowed;
            case 59: return bus.since;
            case 60: return bus.badFrames;
            case 61: return bus.errors;
            case 62: return bit(bus.mute);
            default: return bus.sentEver;
        }
    }

    private long tellBench(int what) {
        switch (what) {
            case 64: return outputs.used;
            case 65: return bit(bus.barred);
            case 66: return bus.barred ? bus.challenge : 0;
            case 67: return bus.tries;
            case 68: return bus.deaf;
            case 69: return model.boots;
            case 70: return memory.heads[Memory.BOOK];
            case 71: return tester.loading + 1;
            case 72: return bench.outs[0];
            case 73: return bench.outs[1];
            case 74: return bench.outs[2];
            case 75: return bench.outs[3];
            case 76: return bench.rules;
            case 77: return bench.textSize;
            case 78: return bench.rowCount;
            default: return bit(bench.runs);
        }
    }

    /** NUMBERS, MAPS, STORE and the BOOK: what stays when the controller is OFF. */
    private static final class Memory {
        private static final int STORE = 0, BOOK = 1;
        private static final int STORE_WORDS = 55, BOOK_WORDS = 34;
        private static final int[] LEAST = {
            1, 0, 100000, 0, 1000, 1000, 1000, 1000, 60, 400, 1, 0, 1, 0, 50, 50, 0, 0, 10, 1, 1, 0, 0, 0};
        private static final int[] GREATEST = {
            8, 7199, 2000000, 1400, 20000, 9000, 9000, 9000, 140, 2000, 1000, 50, 50, 120, 140, 140, 50, 50, 1000,
            200, 100, 1023, 100, 1000};
        private static final int[] AT_FIRST = {
            4, 600, 500000, 300, 8000, 6500, 3500, 2500, 115, 800, 20, 8, 2, 60, 98, 104, 4, 1, 150, 25, 10, 600,
            20, 20};
        private static final int[] SPEEDS = {500, 1500, 3000, 6000};
        private static final int[] PRESSURES = {20, 50, 80, 100};

        final int[] numbers = new int[NUMBERS];
        /** Of MAP m the axis of SPEED at 2 m, that of PRESSURE at 2 m + 1. */
        final int[][] axes = new int[4][4];
        final int[][] cells = new int[2][16];
        final int[][] store = new int[2][STORE_WORDS];
        final int[][] book = new int[2][BOOK_WORDS];
        /** What is to be written: the words between HEAD and the sum, then the sum. */
        final int[] draft = new int[STORE_WORDS];
        /** THE valid copy of STORE and of the BOOK (NONE without), and its HEAD. */
        final int[] valid = {NONE, NONE};
        final int[] heads = new int[2];
        int armed = NONE;
        int written;

        Memory() {
            System.arraycopy(AT_FIRST, 0, numbers, 0, NUMBERS);
            for (int map = 0; map < 2; map++) {
                System.arraycopy(SPEEDS, 0, axes[2 * map], 0, 4);
                System.arraycopy(PRESSURES, 0, axes[2 * map + 1], 0, 4);
            }
            for (int i = 0; i < 4; i++) {
                for (int j = 0; j < 4; j++) {
                    cells[0][4 * i + j] = 1500 + 100 * i + 900 * j;
                    cells[1][4 * i + j] = 100 + 60 * i - 20 * j;
                }
            }
        }

        static boolean isNumber(int k, int v) {
            return k >= 0 && k < NUMBERS && v >= LEAST[k] && v <= GREATEST[k];
        }

        static boolean isCell(int map, int v) {
            return map == 0 ? v >= 0 && v <= 20000 : v >= -100 && v <= 450;
        }

        long numbersSum() {
            long sum = 0;
            for (int k = 0; k < NUMBERS; k++) {
                sum += (k + 1L) * numbers[k];
            }
            return sum;
        }

        int mapValue(int map, int x, int y) {
            if (map < 0 || map > 1) {
                return 0;
            }
            int[] xs = axes[2 * map];
            int[] ys = axes[2 * map + 1];
            int u = clip(x, xs[0], xs[3]);
            int w = clip(y, ys[0], ys[3]);
            int i = u >= xs[2] ? 2 : u >= xs[1] ? 1 : 0;
            int j = w >= ys[2] ? 2 : w >= ys[1] ? 1 : 0;
            long a = u - xs[i];
            long b = xs[i + 1] - u;
            long c = w - ys[j];
            long d = ys[j + 1] - w;
            long area = (a + b) * (c + d);
            int[] of = cells[map];
            int at = 4 * i + j;
            long sum = of[at] * b * d + of[at + 4] * a * d + of[at + 1] * b * c + of[at + 5] * a * c;
            return area > 0 ? (int) Math.floorDiv(sum, area) : 0;
        }

        void takeOverMaps() {
            int copy = valid[BOOK];
            if (copy == 0 || copy == 1) {
                System.arraycopy(book[copy], 1, cells[0], 0, 16);
                System.arraycopy(book[copy], 17, cells[1], 0, 16);
            }
        }

        /** Finds THE valid copy anew; to be called behind each change of a word. */
        void lookOver(int which) {
            if (which != STORE && which != BOOK) {
                return;
            }
            int[][] copies = which == BOOK ? book : store;
            boolean zero = isValid(which, copies[0]);
            boolean one = isValid(which, copies[1]);
            boolean takeOne = one && (!zero || copies[1][0] > copies[0][0]);
            valid[which] = takeOne ? 1 : zero ? 0 : NONE;
            heads[which] = takeOne ? copies[1][0] : zero ? copies[0][0] : 0;
        }

        private static boolean isValid(int which, int[] words) {
            int last = words.length - 1;
            if (last < 1 || words[0] <= 0 || words[last] != sumOf(words, last, words[0])) {
                return false;
            }
            if (which == STORE) {
                return true;
            }
            for (int i = 1; i < last; i++) {
                if (!isCell(i <= 16 ? 0 : 1, words[i])) {
                    return false;
                }
            }
            return true;
        }

        private static int sumOf(int[] words, int last, int head) {
            int sum = head;
            for (int i = 1; i < last && i < words.length; i++) {
                sum += (i + 1) * words[i];
            }
            return sum;
        }

        /** Writes the draft; false if an armed CUT ended it. */
        boolean writeCopy(int which) {
            if (which != STORE && which != BOOK) {
                return true;
            }
            int[][] copies = which == BOOK ? book : store;
            int[] target = copies[valid[which] == 0 ? 1 : 0];
            int last = target.length - 1;
            int head = valid[which] == NONE ? 1 : heads[which] + 1;
            draft[last] = sumOf(draft, last, head);
            boolean powered = writeWord(target, 0, 0);
            for (int i = 1; powered && i <= last; i++) {
                powered = writeWord(target, i, draft[i]);
            }
            return powered && writeWord(target, 0, head);
        }

        private boolean writeWord(int[] words, int i, int v) {
            if (i < 0 || i >= words.length) {
                return true;
            }
            words[i] = v;
            written++;
            if (armed > 0) {
                armed--;
            }
            if (armed == 0) {
                armed = NONE;
                return false;
            }
            return true;
        }
    }

    /** LINES and the CHANNELS that are read through them. */
    private static final class Pins {
        private static final int MOST_POINTS = 8;
        private static final int LEAST_TOLD = -10000;
        private static final int[] SUBSTITUTES = {0, 0, 60, 60, 60, 90, 20, 450, 130, 0};
        /** Of each LINE how many points it has, then x, v of each. */
        private static final int[] LINES_AT_FIRST = {
            2, 0, 0, 1023, 1000,
            2, 0, 0, 1023, 1000,
            2, 0, 0, 1023, 1000,
            2, 0, 0, 1023, 1000,
            2, 0, 10, 1023, 110,
            2, 0, 140, 1023, -40,
            2, 0, 140, 1023, -40,
            2, 0, 0, 1023, 1100,
            2, 0, 0, 1023, 200,
            2, 0, 0, 1023, 1023,
            3, -40, 1800, 20, 1300, 80, 1000,
            3, 80, 2000, 130, 900, 160, 600,
            3, 80, 6000, 130, 3500, 160, 2500};

        final int[][] lineX = new int[LINES][MOST_POINTS];
        final int[][] lineV = new int[LINES][MOST_POINTS];
        final int[] lineSize = new int[LINES];
        final int[] raw = new int[CHANNELS];
        final int[] rawBefore = new int[CHANNELS];
        final int[] low = new int[CHANNELS];
        final int[] high = new int[CHANNELS];
        final int[] rate = new int[CHANNELS];
        final int[] reading = new int[CHANNELS];
        final int[] counter = new int[CHANNELS];
        final boolean[] failing = new boolean[CHANNELS];

        Pins() {
            int at = 0;
            for (int line = 0; line < LINES; line++) {
                int size = at < LINES_AT_FIRST.length ? LINES_AT_FIRST[at] : 0;
                for (int i = 0; i < size && at + 2 * i + 2 < LINES_AT_FIRST.length; i++) {
                    addPoint(line, LINES_AT_FIRST[at + 2 * i + 1], LINES_AT_FIRST[at + 2 * i + 2]);
                }
                at += 2 * size + 1;
            }
            Arrays.fill(raw, 512);
            Arrays.fill(low, 20);
            Arrays.fill(high, 1003);
            Arrays.fill(rate, 1023);
            low[LAMBDA] = 0;
            high[LAMBDA] = 1023;
            low[KNOCK] = 0;
            high[KNOCK] = 1023;
            reset();
        }

        void reset() {
            System.arraycopy(SUBSTITUTES, 0, reading, 0, CHANNELS);
            for (int c = 0; c < CHANNELS; c++) {
                rawBefore[c] = 0;
                counter[c] = 0;
                failing[c] = false;
            }
        }

        // The value of DWELL has a bound of its own; its x has none, for it begins below 100 itself.
        static boolean isPoint(int line, int x, int v) {
            int least = line == DWELL ? 100 : LEAST_TOLD;
            return x >= LEAST_TOLD && x <= 30000 && v >= least && v <= 30000;
        }

        int lastX(int line) {
            int last = lineSize[line] - 1;
            return last >= 0 && last < MOST_POINTS ? lineX[line][last] : LEAST_TOLD - 1;
        }

        void addPoint(int line, int x, int v) {
            int at = lineSize[line];
            if (at < MOST_POINTS) {
                lineX[line][at] = x;
                lineV[line][at] = v;
                lineSize[line] = at + 1;
            }
        }

        int lineValue(int line, int x) {
            int[] xs = lineX[line];
            int[] vs = lineV[line];
            if (x <= xs[0]) {
                return vs[0];
            }
            int v = vs[0];
            for (int i = 1; i < lineSize[line] && i < MOST_POINTS; i++) {
                long width = xs[i] - xs[i - 1];
                if (x < xs[i] && width > 0) {
                    return v + (int) Math.floorDiv((vs[i] - v) * ((long) x - xs[i - 1]), width);
                }
                v = vs[i];
            }
            return v;
        }

        void readAll(boolean first) {
            for (int c = 0; c < CHANNELS; c++) {
                boolean jumps = !first && Math.abs(raw[c] - rawBefore[c]) > rate[c];
                boolean bad = raw[c] < low[c] || raw[c] > high[c] || jumps;
                rawBefore[c] = raw[c];
                counter[c] = clip(bad ? counter[c] + 10 : counter[c] - 1, 0, 100);
                if (counter[c] == 100) {
                    failing[c] = true;
                } else if (counter[c] == 0) {
                    failing[c] = false;
                }
                if (failing[c]) {
                    reading[c] = SUBSTITUTES[c];
                } else if (!bad) {
                    reading[c] = lineValue(c, raw[c]);
                }
            }
        }
    }

    /** The wheel and the cam as they are heard, and what is planned by them. */
    private static final class Crank {
        private static final int SLOWEST = 1000000;
        private static final int SEGMENTS_LOOKED_AT = 200;

        int state;
        long last;
        int pitch;
        /** Kept with STATE and PITCH, by measure(). */
        int speed;
        int tooth;
        int turn;
        int slips;
        int missed;
        int wrongCam;
        int turns;
        boolean camSeen;
        final int[][] waits = new int[3][MOST_CYLINDERS];
        final int[][] plan = new int[4][MOST_CYLINDERS];
        int segments;
        /** When and for which cylinder the PLANNING before was, and its S; NONE if not known. */
        long planTime;
        long planGap;
        int planned;
        int nowLimit;
        boolean cutting;

        Crank() {
            reset();
        }

        void reset() {
            state = LOST;
            last = 0;
            pitch = 0;
            speed = 0;
            tooth = 0;
            turn = 0;
            slips = 0;
            missed = 0;
            wrongCam = 0;
            turns = 0;
            camSeen = false;
            for (int row = 0; row < 4; row++) {
                Arrays.fill(plan[row], 0);
            }
            segments = 0;
            planned = 0;
            nowLimit = 0;
            cutting = false;
            forgetPlans();
        }

        void forgetPlans() {
            for (int kind = INJECT; kind <= SPARK; kind++) {
                Arrays.fill(waits[kind], NONE);
            }
            planTime = NONE;
            planGap = NONE;
        }

        void lose() {
            state = LOST;
            pitch = 0;
            measure();
        }

        private void measure() {
            speed = state >= HALF && pitch > 0 ? 1000000 / pitch : 0;
        }

        /** Answers RIGHT if it was right in FULL, SLIPPED if ALL OFF is due, else HEARD. */
        int hearTooth(long now) {
            long d = Math.max(1, now - last);
            last = now;
            int heard = HEARD;
            if (state == LOST) {
                state = SEEKING;
                pitch = 0;
            } else if (state == SEEKING) {
                seek(d);
            } else if (isRight(d)) {
                goOn(d);
                heard = state == FULL ? RIGHT : HEARD;
            } else {
                slips++;
                state = SEEKING;
                pitch = (int) Math.min(SLOWEST, d);
                heard = SLIPPED;
            }
            measure();
            return heard;
        }

        private void seek(long d) {
            if (pitch > 0 && d > 2L * pitch && d <= 5L * pitch) {
                state = HALF;
                turn = 0;
                passGap(d);
            } else {
                pitch = (int) Math.min(SLOWEST, d);
            }
        }

        private boolean isRight(long d) {
            if (tooth == 57) {
                return d > 2L * pitch && d <= 5L * pitch;
            }
            return 2 * d > pitch && d <= 2L * pitch;
        }

        private void goOn(long d) {
            if (tooth == 57) {
                turn = 1 - turn;
                turns++;
                passGap(d);
                return;
            }
            tooth++;
            pitch = (int) d;
            if (state == FULL && tooth == 21 && turn == 0 && !camSeen) {
                missed = Math.min(100, missed + 1);
            }
        }

        private void passGap(long d) {
            tooth = 0;
            pitch = (int) Math.max(1, d / 3);
            camSeen = false;
        }

        /** True if ALL OFF is due. */
        boolean hearCam() {
            boolean near = tooth >= 10 && tooth <= 20;
            if (state == FULL && !(near && turn == 0)) {
                wrongCam++;
                state = HALF;
                return true;
            }
            if (near && state >= HALF) {
                state = FULL;
                turn = 0;
                missed = 0;
                camSeen = true;
            }
            return false;
        }

        private int angleNow() {
            return 3600 * turn + 60 * tooth;
        }

        boolean standsFor(int angle) {
            return Math.floorMod(angle - angleNow(), TWO_TURNS) < (tooth == 57 ? 180 : 60);
        }

        long comesAt(int angle) {
            long ahead = Math.floorMod(angle - angleNow(), TWO_TURNS);
            return last + ahead * pitch / 60;
        }

        /** 2a. of the plans: a segment that took much longer than the one before tells a MISS. */
        void countMiss(int c, long now) {
            long gap = planTime == NONE ? NONE : now - planTime;
            if (gap != NONE && planGap != NONE && gap > planGap + planGap / 8
                    && planned >= 0 && planned < MOST_CYLINDERS) {
                plan[MISSES][planned]++;
            }
            planGap = gap;
            planTime = now;
            planned = c;
            segments = (segments + 1) % SEGMENTS_LOOKED_AT;
        }

        /** 2e. of the plans. */
        void awaitAngles(int c, int top, int injection, int dwell) {
            if (c < 0 || c >= MOST_CYLINDERS || pitch < 1) {
                return;
            }
            int spark = Math.floorMod(top - plan[ADVANCE][c], TWO_TURNS);
            int charging = (int) Math.min(1200, Math.floorDiv(dwell * 60L, (long) pitch));
            int inject = Math.floorMod(top - 1800 + injection, TWO_TURNS);
            waits[INJECT][c] = plan[FUEL][c] > 0 ? inject : NONE;
            waits[SPARK][c] = spark;
            waits[COIL][c] = Math.floorMod(spark - charging, TWO_TURNS);
        }

        int waitingBits(int c) {
            if (c < 0 || c >= MOST_CYLINDERS) {
                return 0;
            }
            return bit(waits[INJECT][c] != NONE) + 2 * bit(waits[COIL][c] != NONE) + 4 * bit(waits[SPARK][c] != NONE);
        }
    }

    /** EVENTS, injectors and coils, and the LOG. */
    private static final class Outputs {
        private static final int MOST_EVENTS = 64;
        private static final int LOGGED = 200;
        // Kinds of EDGES
        private static final int INJECTOR_ON = 0, INJECTOR_ENDS = 1, COIL_ON = 2, COIL_SPARKS = 3, COIL_ENDS = 4;

        /** In the order in which they were put. */
        final long[] eventTime = new long[MOST_EVENTS];
        final int[] eventKind = new int[MOST_EVENTS];
        final int[] eventCylinder = new int[MOST_EVENTS];
        /** FUEL of an INJECT; for the cutoff of a coil the round that it belongs to. */
        final int[] eventData = new int[MOST_EVENTS];
        int events;
        int over;
        final boolean[] injector = new boolean[MOST_CYLINDERS];
        final boolean[] coil = new boolean[MOST_CYLINDERS];
        /** How often the coil went on: tells a cutoff whether it is on still since then. */
        final int[] coilRound = new int[MOST_CYLINDERS];
        final long[] logTime = new long[LOGGED];
        final int[] logKind = new int[LOGGED];
        final int[] logCylinder = new int[LOGGED];
        int edges;
        int sparks;
        int cutoffs;
        long used;
        /** What the MODEL feels at a TOP; it is the wheel's, so it stays when the controller is OFF. */
        final boolean[] injected = new boolean[MOST_CYLINDERS];
        final boolean[] sparked = new boolean[MOST_CYLINDERS];
        final int[] injectedFuel = new int[MOST_CYLINDERS];

        void reset() {
            events = 0;
            over = 0;
            sparks = 0;
            cutoffs = 0;
            used = 0;
            for (int c = 0; c < MOST_CYLINDERS; c++) {
                injector[c] = false;
                coil[c] = false;
                coilRound[c] = 0;
            }
        }

        void put(long at, int kind, int cylinder, int data) {
            if (events >= MOST_EVENTS) {
                over++;
                return;
            }
            eventTime[events] = at;
            eventKind[events] = kind;
            eventCylinder[events] = cylinder;
            eventData[events] = data;
            events++;
        }

        /** The earliest one, of several at one time that which was put first; NONE without. */
        int nextEvent() {
            int next = NONE;
            long least = NEVER;
            for (int i = 0; i < events && i < MOST_EVENTS; i++) {
                if (eventTime[i] < least) {
                    least = eventTime[i];
                    next = i;
                }
            }
            return next;
        }

        void happen(int i, int dwellMost) {
            if (i < 0 || i >= events || i >= MOST_EVENTS) {
                return;
            }
            long now = eventTime[i];
            int kind = eventKind[i];
            int c = eventCylinder[i];
            int data = eventData[i];
            takeOut(i);
            if (c < 0 || c >= MOST_CYLINDERS) {
                return;
            }
            if (kind == INJECT && !injector[c]) {
                beginInjection(now, c, data);
            } else if (kind == INJECTOR_OFF && injector[c]) {
                injector[c] = false;
                keepEdge(now, INJECTOR_ENDS, c);
            } else if (kind == COIL && !coil[c]) {
                coil[c] = true;
                coilRound[c]++;
                keepEdge(now, COIL_ON, c);
                put(now + dwellMost, COIL_CUTOFF, c, coilRound[c]);
            } else if (kind == SPARK && coil[c]) {
                coil[c] = false;
                sparks++;
                sparked[c] = true;
                keepEdge(now, COIL_SPARKS, c);
            } else if (kind == COIL_CUTOFF && coil[c] && coilRound[c] == data) {
                coil[c] = false;
                cutoffs++;
                keepEdge(now, COIL_ENDS, c);
            }
        }

        private void beginInjection(long now, int c, int fuel) {
            injector[c] = true;
            injected[c] = true;
            injectedFuel[c] = fuel;
            used += fuel;
            keepEdge(now, INJECTOR_ON, c);
            put(now + fuel, INJECTOR_OFF, c, 0);
        }

        private void takeOut(int i) {
            int behind = events - i - 1;
            if (behind > 0) {
                System.arraycopy(eventTime, i + 1, eventTime, i, behind);
                System.arraycopy(eventKind, i + 1, eventKind, i, behind);
                System.arraycopy(eventCylinder, i + 1, eventCylinder, i, behind);
                System.arraycopy(eventData, i + 1, eventData, i, behind);
            }
            events--;
        }

        void stopAll(long now) {
            events = 0;
            for (int c = 0; c < MOST_CYLINDERS; c++) {
                if (injector[c]) {
                    injector[c] = false;
                    keepEdge(now, INJECTOR_ENDS, c);
                }
            }
            for (int c = 0; c < MOST_CYLINDERS; c++) {
                if (coil[c]) {
                    coil[c] = false;
                    keepEdge(now, COIL_ENDS, c);
                }
            }
        }

        private void keepEdge(long now, int kind, int cylinder) {
            int at = edges % LOGGED;
            logTime[at] = now;
            logKind[at] = kind;
            logCylinder[at] = cylinder;
            edges++;
        }

        long edgeNumber(int i, int what) {
            int oldest = Math.max(0, edges - LOGGED);
            int at = Math.floorMod(oldest + i, LOGGED);
            return what == 0 ? logTime[at] : what == 1 ? logKind[at] : logCylinder[at];
        }

        /** FUEL of the stroke that ends at this TOP, 0 without one; what comes then is of the next. */
        int takeStroke(int c) {
            if (c < 0 || c >= MOST_CYLINDERS) {
                return 0;
            }
            int fuel = injected[c] && sparked[c] ? injectedFuel[c] : 0;
            injected[c] = false;
            sparked[c] = false;
            return fuel;
        }
    }

    /** Pedal, plate, the throttle's motor, and the cruise that pulls at it. */
    private static final class Throttle {
        private static final int READY = 1, HOLDING = 2;
        private static final int RESTING_PLATE = 60;

        int pedal;
        int plate;
        int plateBefore;
        int pedals;
        int plates;
        int rich;
        int idling;
        int target;
        int duty;
        int sum;
        int error;
        boolean powered;
        int cruise;
        int wish;
        int cruiseSum;
        int cruising;
        int differ;
        boolean unsure;

        void reset() {
            pedal = 0;
            plate = 0;
            plateBefore = 0;
            pedals = 0;
            plates = 0;
            rich = 0;
            idling = 0;
            target = 0;
            duty = 0;
            sum = 0;
            error = 0;
            powered = false;
            cruise = 0;
            wish = 0;
            cruiseSum = 0;
            cruising = 0;
            differ = 0;
            unsure = false;
        }

        void feelBrake(boolean contactsDiffer) {
            differ = contactsDiffer ? Math.min(20, differ + 1) : 0;
            if (differ == 20) {
                unsure = true;
            }
        }

        void readPedals(Pins pins) {
            boolean oneFails = pins.failing[PEDAL1];
            boolean twoFails = pins.failing[PEDAL2];
            int one = pins.reading[PEDAL1];
            int two = pins.reading[PEDAL2];
            if (oneFails || twoFails) {
                pedal = !oneFails ? one : !twoFails ? two : 0;
                return;
            }
            pedals = countApart(pedals, one, two);
            pedal = Math.min(one, two);
        }

        /** True if LIMP begins. */
        boolean readPlates(Pins pins) {
            boolean oneFails = pins.failing[PLATE1];
            boolean twoFails = pins.failing[PLATE2];
            int one = pins.reading[PLATE1];
            int two = pins.reading[PLATE2];
            if (!oneFails && !twoFails) {
                plates = countApart(plates, one, two);
            }
            plateBefore = plate;
            plate = !oneFails ? one : !twoFails ? two : RESTING_PLATE;
            return plates >= 10 || oneFails && twoFails;
        }

        private static int countApart(int count, int one, int two) {
            return clip(Math.abs(one - two) > 60 ? count + 1 : count - 1, 0, 20);
        }

        void enrich(boolean first, int quick, int richer) {
            int opened = plate - plateBefore;
            if (!first && opened > quick) {
                rich = Math.max(rich, Math.min(500, opened * richer));
            } else {
                rich -= rich / 8 + (rich > 0 ? 1 : 0);
            }
        }

        void feelButton(int button, int v, boolean may) {
            if (button == 0) {
                wish = cruise == 0 ? wish : 0;
                cruise = cruise == 0 ? READY : 0;
            } else if (button == 1 && cruise != 0 && may) {
                wish = v;
                hold();
            } else if (button == 2 && cruise == READY && wish > 0 && may) {
                hold();
            } else if (button == 3 && cruise == HOLDING) {
                cruise = READY;
            } else if (button == 4 && cruise == HOLDING) {
                wish = Math.min(20000, wish + 100);
            } else if (button == 5 && cruise == HOLDING) {
                wish = Math.max(3000, wish - 100);
            }
        }

        private void hold() {
            cruise = HOLDING;
            cruiseSum = 0;
        }

        void holdRoadSpeed(boolean fit, int v) {
            if (cruise == HOLDING && !fit) {
                cruise = READY;
            }
            if (cruise == HOLDING) {
                cruiseSum = clip(cruiseSum + Math.floorDiv(wish - v, 8), 0, 16000);
                cruising = clip(Math.floorDiv(wish - v, 4) + cruiseSum / 16, 0, 800);
            } else {
                cruiseSum = 0;
                cruising = 0;
            }
        }

        void drive(int allowed, int p, int i) {
            target = Math.min(Math.min(1000, allowed), idling + Math.max(pedal, cruising));
            error = target - plate;
            sum = clip(sum + (long) error * i, -16000, 16000);
            duty = clip((long) error * p + Math.floorDiv(sum, 16), -1000, 1000);
        }

        void letGo() {
            target = RESTING_PLATE;
            duty = 0;
            sum = 0;
        }
    }

    /** LIMP, the SECOND LOOK, WATCH, heat, and the trim of the mixture. */
    private static final class Guard {
        boolean limp;
        int far;
        boolean looked;
        boolean lookFailed;
        boolean armed;
        int question;
        boolean answered;
        int waited;
        int wrong;
        boolean shut;
        boolean hot;
        boolean fan1;
        boolean fan2;
        boolean closed;
        boolean richBefore;
        int cellBefore;
        int same;
        int held;
        int shortTrim;
        final int[] longTrim = new int[16];

        void reset() {
            limp = false;
            far = 0;
            looked = false;
            lookFailed = false;
            armed = false;
            question = 0;
            answered = false;
            waited = 0;
            wrong = 0;
            shut = false;
            hot = false;
            fan1 = false;
            fan2 = false;
            closed = false;
            richBefore = false;
            cellBefore = 0;
            same = 0;
            held = 0;
            shortTrim = 0;
            Arrays.fill(longTrim, 0);
        }

        void takeOver(int[] words) {
            if (words.length < Memory.STORE_WORDS) {
                return;
            }
            for (int i = 0; i < 16; i++) {
                longTrim[i] = clip(words[37 + i], -100, 100);
            }
        }

        void fill(int[] draft) {
            if (draft.length >= Memory.STORE_WORDS) {
                System.arraycopy(longTrim, 0, draft, 37, 16);
            }
        }

        void arm(boolean on) {
            armed = on;
            question = on ? 1 : 0;
            answered = false;
            waited = 0;
            wrong = 0;
            shut = false;
        }

        void lookAgain(boolean on, int error, int apart, int most) {
            looked = on && !limp && !shut;
            lookFailed = false;
            if (!looked) {
                return;
            }
            far = Math.abs(error) > apart ? far + 1 : 0;
            if (far >= most) {
                limp = true;
                lookFailed = true;
            }
        }

        /** True if SHUT begins. */
        boolean tickWatch() {
            if (!armed) {
                return false;
            }
            waited++;
            if (waited < 10) {
                return false;
            }
            waited = 0;
            wrong = clip(answered ? wrong - 1 : wrong + 1, 0, 5);
            question = (5 * question + 1) % 16;
            answered = false;
            boolean begins = wrong == 3 && !shut;
            if (begins) {
                shut = true;
            } else if (wrong == 0) {
                shut = false;
            }
            return begins;
        }

        void feelHeat(int coolant, int[] numbers) {
            if (numbers.length < NUMBERS) {
                return;
            }
            hot = isOver(hot, coolant, numbers[HOT]);
            fan1 = isOver(fan1, coolant, numbers[FAN1]);
            fan2 = isOver(fan2, coolant, numbers[FAN2]);
        }

        private static boolean isOver(boolean was, int coolant, int from) {
            return coolant >= from || was && coolant >= from - 5;
        }

        void trim(boolean closedBefore, boolean rich, int cell, int step) {
            if (cell < 0 || cell >= longTrim.length) {
                return;
            }
            boolean otherSide = closedBefore && rich != richBefore;
            int by = otherSide ? 5 * step : step;
            same = otherSide ? 0 : Math.min(1000, same + 1);
            shortTrim = clip(rich ? shortTrim - by : shortTrim + by, -250, 250);
            held = closedBefore && cell == cellBefore ? held + 1 : 0;
            if (held == 100) {
                held = 0;
                int more = shortTrim > 20 ? 1 : shortTrim < -20 ? -1 : 0;
                longTrim[cell] = clip(longTrim[cell] + more, -100, 100);
            }
            richBefore = rich;
            cellBefore = cell;
        }

        void relax() {
            shortTrim += shortTrim > 0 ? -1 : shortTrim < 0 ? 1 : 0;
            same = 0;
            held = 0;
        }
    }

    /** Trouble, the FRAME, and CYCLES. */
    private static final class Troubles {
        final int[][] mark = new int[MARKS][TROUBLES];
        final int[] frame = new int[8];
        boolean framed;
        int cycles;
        /** The counts at the end of the LOOP before. */
        int slipsBefore;
        int wrongCamBefore;
        int cutoffsBefore;
        int sparksBefore;

        void reset() {
            clearMarks();
            cycles = 0;
            slipsBefore = 0;
            wrongCamBefore = 0;
            cutoffsBefore = 0;
            sparksBefore = 0;
        }

        void clearMarks() {
            for (int row = 0; row < MARKS; row++) {
                Arrays.fill(mark[row], 0);
            }
            framed = false;
            Arrays.fill(frame, 0);
        }

        static int codeOf(int k) {
            return k >= MISFIRE ? 769 + k - MISFIRE : 256 + 16 * k;
        }

        /** True if it becomes FAULTY. */
        boolean countFail(int k) {
            if (k < 0 || k >= TROUBLES) {
                return false;
            }
            mark[DEBOUNCE][k] = Math.min(127, mark[DEBOUNCE][k] + 32);
            if (mark[DEBOUNCE][k] < 127 || mark[FAULTY][k] != 0) {
                return false;
            }
            mark[FAULTY][k] = 1;
            mark[MET][k] = 1;
            mark[PENDING][k] = 1;
            if (mark[OLD][k] != 0) {
                mark[CONFIRMED][k] = 1;
                mark[HEALED][k] = 0;
            }
            return true;
        }

        void countPass(int k) {
            if (k < 0 || k >= TROUBLES) {
                return;
            }
            mark[DEBOUNCE][k] = Math.max(-128, mark[DEBOUNCE][k] - 4);
            if (mark[DEBOUNCE][k] == -128) {
                mark[FAULTY][k] = 0;
                mark[SEEN][k] = 1;
            }
        }

        void endCycle() {
            for (int k = 0; k < TROUBLES; k++) {
                if (mark[MET][k] != 0 && mark[OLD][k] != 0) {
                    mark[CONFIRMED][k] = 1;
                    mark[HEALED][k] = 0;
                }
                if (mark[MET][k] == 0 && mark[SEEN][k] != 0) {
                    heal(k);
                }
            }
            cycles++;
            int k = frame[0];
            if (framed && k >= 0 && k < TROUBLES && mark[PENDING][k] == 0 && mark[CONFIRMED][k] == 0) {
                framed = false;
                Arrays.fill(frame, 0);
            }
        }

        private void heal(int k) {
            mark[PENDING][k] = 0;
            if (mark[CONFIRMED][k] == 0) {
                return;
            }
            mark[HEALED][k]++;
            if (mark[HEALED][k] >= 40) {
                mark[HEALED][k] = 0;
                mark[CONFIRMED][k] = 0;
            }
        }

        boolean lights() {
            for (int k = 0; k < TROUBLES; k++) {
                if (mark[CONFIRMED][k] != 0 && mark[HEALED][k] < 3) {
                    return true;
                }
            }
            return false;
        }

        int countOf(int row) {
            int count = 0;
            for (int k = 0; k < TROUBLES && row >= 0 && row < MARKS; k++) {
                count += mark[row][k];
            }
            return count;
        }

        void fill(int[] draft) {
            if (draft.length < Memory.STORE_WORDS) {
                return;
            }
            for (int k = 0; k < TROUBLES; k++) {
                draft[1 + k] = mark[PENDING][k] + 2 * mark[CONFIRMED][k] + 4 * mark[HEALED][k];
            }
            draft[29] = framed ? 1 + frame[0] : 0;
            for (int i = 1; i < 8; i++) {
                draft[29 + i] = framed ? frame[i] : 0;
            }
            draft[53] = cycles;
        }

        void takeOver(int[] words) {
            if (words.length < Memory.STORE_WORDS) {
                return;
            }
            for (int k = 0; k < TROUBLES; k++) {
                mark[PENDING][k] = words[1 + k] & 1;
                mark[CONFIRMED][k] = words[1 + k] >> 1 & 1;
                mark[HEALED][k] = (words[1 + k] >>> 2) % 40;
                mark[OLD][k] = mark[PENDING][k];
            }
            framed = words[29] >= 1 && words[29] <= TROUBLES;
            for (int i = 0; i < 8; i++) {
                frame[i] = framed ? words[29 + i] : 0;
            }
            if (framed) {
                frame[0]--;
            }
            cycles = words[53];
        }
    }

    /** The tester's line: REQUESTS, ANSWERS, the SESSION, and a MAP that is LOADING. */
    private static final class Tester {
        private static final int ROOM = 600;
        private static final int ANY_LENGTH = 0;
        private static final int[] PIDS = {1, 3, 4, 5, 6, 7, 11, 12, 14, 15, 17, 20, 28, 31};
        private static final String NAME = "T16ENGINE00000001";

        final int[] row = new int[67];
        int rowSize;
        long lastByte;
        boolean session;
        boolean open;
        int silent;
        int noise;
        int seed;
        boolean seeded;
        int wrongKeys;
        final int[] out = new int[ROOM];
        int outSize;
        final int[] data = new int[64];
        int dataSize;
        int loading = NONE;
        int place;
        final int[] loaded = new int[16];
        /** The numbers of a FRAME as they are at a REQUEST. */
        final int[] view = new int[8];

        void reset() {
            rowSize = 0;
            lastByte = 0;
            session = false;
            open = false;
            silent = 0;
            noise = 0;
            seed = 0;
            seeded = false;
            wrongKeys = 0;
            loading = NONE;
            place = 0;
        }

        void tick() {
            if (!session) {
                return;
            }
            silent++;
            if (silent >= SILENT_LOOPS) {
                endSession();
            }
        }

        private void endSession() {
            session = false;
            close();
        }

        private void close() {
            open = false;
            loading = NONE;
        }

        /** True if the REQUEST is whole by this byte. */
        boolean take(int b, long now) {
            if (now - lastByte > 20000) {
                rowSize = 0;
            }
            lastByte = now;
            if (rowSize == 0 && (b < 128 || (b & 63) == 0)) {
                noise++;
                return false;
            }
            if (rowSize < row.length) {
                row[rowSize] = b;
                rowSize++;
            }
            return rowSize >= (row[0] & 63) + 4;
        }

        /** Whether the row has a REQUEST that is to be handled; the row is empty then. */
        boolean hasRequest() {
            int last = rowSize - 1;
            rowSize = 0;
            int sum = 0;
            for (int i = 0; i < last && i < row.length; i++) {
                sum += row[i];
            }
            if (last < 0 || last >= row.length || row[last] != sum % 256) {
                noise++;
                return false;
            }
            return row[1] == (row[0] < 192 ? 17 : 51) && (session || row[3] == 0x81);
        }

        /** How many DATA a service must have, itself counted; NONE for no such service. */
        static int lengthDue(int service) {
            switch (service) {
                case 0x81: case 0x82: case 0x3E: case 0x03: case 0x07: case 0x04: return 1;
                case 0x01: case 0x09: case 0x21: case 0x34: return 2;
                case 0x02: case 0x37: return 3;
                case 0x36: return 4;
                case 0x3B: return 5;
                case 0x27: return ANY_LENGTH;
                default: return NONE;
            }
        }

        int say(int b) {
            if (dataSize < 63) {
                data[dataSize] = b & 255;
                dataSize++;
            }
            return DONE;
        }

        int sayTwo(long v) {
            say((int) (v >> 8));
            return say((int) v);
        }

        int sayFour(long v) {
            sayTwo(v >> 16);
            return sayTwo(v);
        }

        int sayByte(long v) {
            return say(clip(v, 0, 255));
        }

        int sayPids() {
            long bits = 0;
            for (int i = 0; i < PIDS.length; i++) {
                bits |= 1L << (32 - PIDS[i]);
            }
            return sayFour(bits);
        }

        int sayName() {
            say(1);
            for (int i = 0; i < NAME.length(); i++) {
                say(NAME.charAt(i));
            }
            return DONE;
        }

        /** PIDS that are told of a FRAME as well as of now; false for another one. */
        boolean describe(int pid, int[] from) {
            if (from.length < 8) {
                return false;
            }
            switch (pid) {
                case 4: sayByte(from[2] * 255L / 100); return true;
                case 5: sayByte(from[3] + 40L); return true;
                case 6: sayByte(128 + Math.floorDiv(from[5] * 128L, 1000L)); return true;
                case 7: sayByte(128 + Math.floorDiv(from[6] * 128L, 1000L)); return true;
                case 11: sayByte(from[2]); return true;
                case 12: sayTwo(clip(from[1] * 4L, 0, 65535)); return true;
                case 17: sayByte(from[4] * 255L / 1000); return true;
                default: return false;
            }
        }

        /** The ANSWER goes into OUT: what was said, or a REFUSAL. */
        void reply(int refusal) {
            if (refusal != DONE) {
                dataSize = 0;
                say(0x7F);
                say(row[3]);
                say(refusal);
            }
            if (outSize + dataSize + 4 > ROOM) {
                return;
            }
            int sum = keepByte(128 + dataSize) + keepByte(row[2]) + keepByte(17);
            for (int i = 0; i < dataSize && i < data.length; i++) {
                sum += keepByte(data[i]);
            }
            keepByte(sum & 255);
        }

        private int keepByte(int b) {
            if (outSize < ROOM) {
                out[outSize] = b;
                outSize++;
            }
            return b;
        }

        int beginSession() {
            session = true;
            close();
            say(0xC1);
            say(0xEA);
            return say(0x8F);
        }

        int leaveSession() {
            endSession();
            return say(0xC2);
        }

        /** 27h: a SEED, or a KEY for it. */
        int serveLock(int loops) {
            int n = row[0] & 63;
            if (n == 2 && row[4] == 1) {
                seed = (int) ((7919L * loops + 13) % 65536);
                seeded = true;
                say(0x67);
                say(1);
                return sayTwo(seed);
            }
            if (n != 4 || row[4] != 2) {
                return WRONG_FORM;
            }
            if (wrongKeys >= 3) {
                return LOCKED_OUT;
            }
            if (!seeded) {
                return OUT_OF_TURN;
            }
            seeded = false;
            if ((row[5] << 8 | row[6]) != (3 * seed + 4660) % 65536) {
                wrongKeys++;
                return WRONG_KEY;
            }
            open = true;
            say(0x67);
            return say(2);
        }

        /** 36h: one cell of the MAP that is LOADING. */
        int servePlace() {
            if (loading == NONE) {
                return OUT_OF_TURN;
            }
            int v = (short) (row[5] << 8 | row[6]);
            if (place < 0 || place > 15 || row[4] != place || !Memory.isCell(loading, v)) {
                return NOT_THERE;
            }
            loaded[place] = v;
            place++;
            say(0x76);
            return say(row[4]);
        }

        boolean sumIsRight() {
            int sum = 0;
            for (int i = 0; i < 16; i++) {
                sum += loaded[i];
            }
            return (sum & 65535) == (row[4] << 8 | row[5]);
        }
    }

    /** The BUS and the LOCK that listens to it. */
    private static final class Bus {
        private static final int KEPT = 64;
        private static final int ALLOWING = 336, MOTION = 513, STATE = 1056, CHALLENGING = 1280, UNLOCKING = 1281;

        final int[] sentId = new int[KEPT];
        final int[] sentHigh = new int[KEPT];
        final int[] sentLow = new int[KEPT];
        int sentEver;
        int motionCount;
        int stateCount;
        int errors;
        boolean mute;
        int muteLoops;
        int allowed = 1000;
        int since = 20;
        /** COUNT of the right one before; NONE if there was none since BOOT. */
        int rightCount = NONE;
        int badFrames;
        int code;
        boolean barred;
        int challenge;
        int tries;
        int deaf;

        // The CODE is told from outside and stays.
        void reset() {
            sentEver = 0;
            motionCount = 0;
            stateCount = 0;
            errors = 0;
            mute = false;
            muteLoops = 0;
            allowed = 1000;
            since = 20;
            rightCount = NONE;
            badFrames = 0;
            barred = false;
            challenge = 0;
            tries = 0;
            deaf = 0;
        }

        void bar(int boots) {
            barred = code != 0;
            challenge = barred ? boots * 1103515245 + 12345 : 0;
        }

        void disturb(int n) {
            if (mute) {
                return;
            }
            errors += n;
            if (errors >= 256) {
                mute = true;
                muteLoops = 0;
            }
        }

        void tick() {
            deaf = Math.max(0, deaf - 1);
            if (!mute) {
                errors = Math.max(0, errors - 1);
                return;
            }
            muteLoops++;
            if (muteLoops >= 100) {
                mute = false;
                errors = 0;
            }
        }

        void tickSince() {
            since = Math.min(20, since + 1);
            if (since == 20) {
                allowed = 1000;
            }
        }

        /** A FRAME goes out: four bytes, three bytes, and their CHECK. */
        void send(int id, int high, int lowThree) {
            int at = sentEver % KEPT;
            sentId[at] = id;
            sentHigh[at] = high;
            sentLow[at] = lowThree << 8 | checkOf(high, lowThree);
            sentEver++;
        }

        int sentNumber(int i, int what) {
            int oldest = Math.max(0, sentEver - KEPT);
            int at = Math.floorMod(oldest + i, KEPT);
            return what == 0 ? sentId[at] : what == 1 ? sentHigh[at] : sentLow[at];
        }

        private static int checkOf(int high, int lowThree) {
            int mixed = high ^ high >>> 8 ^ high >>> 16 ^ high >>> 24 ^ lowThree ^ lowThree >>> 8 ^ lowThree >>> 16;
            return (mixed ^ 0xA5) & 255;
        }

        boolean hearAllowed(int high, int low) {
            int percentage = high >>> 24;
            int count = low >>> 8 & 255;
            boolean inTurn = rightCount == NONE || since == 20 || count == (rightCount + 1) % 16;
            if (percentage > 100 || count > 15 || (low & 255) != checkOf(high, low >>> 8) || !inTurn) {
                badFrames++;
                return false;
            }
            rightCount = count;
            allowed = 10 * percentage;
            since = 0;
            return true;
        }

        boolean hearUnlock(int key) {
            if (!barred || deaf > 0) {
                return false;
            }
            int x = (challenge ^ code) * -1640531535;
            if (key == (x ^ x >>> 15)) {
                barred = false;
                return true;
            }
            tries++;
            if (tries >= 5) {
                tries = 0;
                deaf = 1000;
            }
            return false;
        }
    }

    /**
     * The bench's RULES and RECORDER. A TEXT is read into a row of steps for a stack; its jumps go
     * forward alone, so that following it always ends.
     */
    private static final class Bench {
        private static final int ROWS_KEPT = 128;
        private static final int MOST_TEXT = 200;
        private static final int MOST_RULES = 8;
        private static final int MOST_OPEN = 12;
        // No character gives more than one step.
        private static final int MOST_STEPS = 256;
        private static final String INPUTS = "sptlvkmn";

        private static final int GIVE_NUMBER = 0, GIVE_OUT = 1, GIVE_INPUT = 2, NEGATE = 3, KEEP_OUT = 4;
        private static final int SKIP_IF_NOT = 5, SKIP = 6;

        final int[] text = new int[MOST_TEXT];
        int textSize;
        /** Steps: what is done (a sign for what has two operands), and its number. */
        final int[][] program = new int[2][MOST_STEPS];
        int programSize;
        int rules;
        final int[][] draft = new int[2][MOST_STEPS];
        int draftSize;
        /** Where the TEXT is being read; that of the FAULT when a reader gives up. */
        int place;
        final int[] outs = new int[4];
        final int[] inputs = new int[8];
        final int[] stack = new int[MOST_STEPS];
        int every;
        final int[] whats = new int[3];
        final long[][] rows = new long[3][ROWS_KEPT];
        int rowCount;
        int rowStart;
        boolean runs;
        int more = NONE;
        int dBefore;

        // What the controller has; the rest is the bench's and stays.
        void reset() {
            Arrays.fill(outs, 0);
            dBefore = 0;
        }

        boolean addUnit(int u) {
            if (textSize >= MOST_TEXT || u < 32 || u > 126) {
                return false;
            }
            text[textSize] = u;
            textSize++;
            return true;
        }

        /** How many RULES the TEXT has, or -1 less the place of its FAULT. */
        int readText() {
            place = 0;
            draftSize = 0;
            int count = 0;
            boolean right = true;
            boolean another = true;
            while (another && count < MOST_RULES) {
                right = readRule();
                count++;
                another = right && count < MOST_RULES && readSign(';');
            }
            right = right && nextSign() == NONE;
            textSize = 0;
            if (!right) {
                return -1 - place;
            }
            System.arraycopy(draft[0], 0, program[0], 0, MOST_STEPS);
            System.arraycopy(draft[1], 0, program[1], 0, MOST_STEPS);
            programSize = draftSize;
            rules = count;
            return count;
        }

        /** The next character that is no blank, at place then; NONE at the end. */
        private int nextSign() {
            while (place < textSize && place < MOST_TEXT && text[place] == ' ') {
                place++;
            }
            return place < textSize && place < MOST_TEXT ? text[place] : NONE;
        }

        private boolean readSign(int sign) {
            if (nextSign() != sign) {
                return false;
            }
            place++;
            return true;
        }

        private int addStep(int what, int number) {
            int at = draftSize;
            if (at < MOST_STEPS) {
                draft[0][at] = what;
                draft[1][at] = number;
                draftSize++;
            }
            return at;
        }

        // A step that skips goes to where the next one will stand.
        private void endSkip(int at) {
            if (at >= 0 && at < MOST_STEPS) {
                draft[1][at] = draftSize;
            }
        }

        private boolean readRule() {
            int out = nextSign() - 'a';
            if (out < 0 || out > 3) {
                return false;
            }
            place++;
            if (!readSign('=') || !readChoice(0)) {
                return false;
            }
            addStep(KEEP_OUT, out);
            return true;
        }

        // open: how many of ( and - and ? are open round it.
        private boolean readChoice(int open) {
            if (!readSum(open)) {
                return false;
            }
            int sign = nextSign();
            if (sign != '<' && sign != '>' && sign != '~') {
                return true;
            }
            place++;
            if (!readSum(open) || nextSign() != '?' || open >= MOST_OPEN) {
                return false;
            }
            place++;
            addStep(sign, 0);
            int toSecond = addStep(SKIP_IF_NOT, 0);
            if (!readChoice(open + 1) || !readSign(':')) {
                return false;
            }
            int toEnd = addStep(SKIP, 0);
            endSkip(toSecond);
            if (!readChoice(open + 1)) {
                return false;
            }
            endSkip(toEnd);
            return true;
        }

        private boolean readSum(int open) {
            boolean right = readProduct(open);
            for (int i = 0; right && i < MOST_TEXT; i++) {
                int sign = nextSign();
                if (sign != '+' && sign != '-') {
                    return true;
                }
                place++;
                right = readProduct(open);
                addStep(sign, 0);
            }
            return right;
        }

        private boolean readProduct(int open) {
            boolean right = readFactor(open);
            for (int i = 0; right && i < MOST_TEXT; i++) {
                int sign = nextSign();
                if (sign != '*' && sign != '/') {
                    return true;
                }
                place++;
                right = readFactor(open);
                addStep(sign, 0);
            }
            return right;
        }

        private boolean readFactor(int open) {
            int sign = nextSign();
            if (sign >= '0' && sign <= '9') {
                int number = readNumber();
                addStep(GIVE_NUMBER, number);
                return number != NONE;
            }
            if (sign == '-' || sign == '(') {
                if (open >= MOST_OPEN) {
                    return false;
                }
                place++;
                boolean right = sign == '-' ? readFactor(open + 1) : readChoice(open + 1) && nextSign() == ')';
                if (right && sign == '(') {
                    place++;
                } else if (right) {
                    addStep(NEGATE, 0);
                }
                return right;
            }
            int input = sign == NONE ? NONE : INPUTS.indexOf((char) sign);
            if (sign >= 'a' && sign <= 'd') {
                addStep(GIVE_OUT, sign - 'a');
            } else if (input >= 0) {
                addStep(GIVE_INPUT, input);
            } else {
                return false;
            }
            place++;
            return true;
        }

        /** NONE if it has a sixth digit, which can't be there. */
        private int readNumber() {
            int number = 0;
            int digits = 0;
            while (digits < 6 && place < textSize && place < MOST_TEXT && text[place] >= '0' && text[place] <= '9') {
                digits++;
                if (digits == 6) {
                    return NONE;
                }
                number = 10 * number + text[place] - '0';
                place++;
            }
            return number;
        }

        /** Each RULE in turn gives its OUT what its CHOICE is. */
        void followProgram() {
            int top = 0;
            int next = 0;
            for (int at = 0; at < programSize && at < MOST_STEPS; at++) {
                if (at >= next) {
                    int what = program[0][at];
                    int number = program[1][at];
                    boolean skips = what == SKIP || what == SKIP_IF_NOT && top > 0 && stack[top - 1] == 0;
                    next = skips ? number : at + 1;
                    top = doStep(what, number, top);
                }
            }
        }

        /** How many numbers the stack has then. */
        private int doStep(int what, int number, int top) {
            if (top < 0 || top >= MOST_STEPS) {
                return top;
            }
            switch (what) {
                case GIVE_NUMBER:
                    stack[top] = number;
                    return top + 1;
                case GIVE_OUT:
                    stack[top] = number >= 0 && number < 4 ? outs[number] : 0;
                    return top + 1;
                case GIVE_INPUT:
                    stack[top] = number >= 0 && number < 8 ? inputs[number] : 0;
                    return top + 1;
                case SKIP:
                    return top;
                default:
                    return top < 1 ? top : takeTop(what, number, top - 1);
            }
        }

        private int takeTop(int what, int number, int top) {
            if (top < 0 || top >= MOST_STEPS) {
                return top;
            }
            if (what == SKIP_IF_NOT) {
                return top;
            }
            if (what == KEEP_OUT) {
                if (number >= 0 && number < 4) {
                    outs[number] = stack[top];
                }
                return top;
            }
            if (what == NEGATE) {
                stack[top] = -stack[top];
                return top + 1;
            }
            if (top > 0) {
                stack[top - 1] = reckon(what, stack[top - 1], stack[top]);
            }
            return top;
        }

        private static int reckon(int sign, int x, int y) {
            switch (sign) {
                case '+': return x + y;
                case '-': return x - y;
                case '*': return x * y;
                case '/': return y == 0 ? 0 : x / y;
                case '<': return x < y ? 1 : 0;
                case '>': return x > y ? 1 : 0;
                default: return x == y ? 1 : 0;
            }
        }

        void beginRows(int newEvery, int a, int b, int c) {
            every = newEvery;
            whats[0] = a;
            whats[1] = b;
            whats[2] = c;
            rowCount = 0;
            rowStart = 0;
            runs = true;
            more = NONE;
            dBefore = 0;
        }

        /** Where the next row goes: behind the last one, or in place of the oldest. */
        int nextSlot() {
            return Math.floorMod(rowStart + rowCount, ROWS_KEPT);
        }

        void keepRow() {
            if (rowCount < ROWS_KEPT) {
                rowCount++;
            } else {
                rowStart = (rowStart + 1) % ROWS_KEPT;
            }
            if (more > 0) {
                more--;
                runs = more > 0;
            }
        }

        void watchTrigger() {
            if (runs && more == NONE && outs[3] != 0 && dBefore == 0) {
                more = 64;
            }
            dBefore = outs[3];
        }
    }

    /** The MODEL of the engine, and the car round it: nothing here ends when the controller is OFF. */
    private static final class Model {
        /** Hundredths of km an hour by hundred turns a minute, of GEARS 1 .. 6. */
        private static final int[] RATIOS = {75, 140, 210, 290, 370, 450};

        int where;
        int rpm;
        int load;
        boolean starter;
        boolean auto;
        int flap = 60;
        int heat = 20;
        int v;
        int gear;
        int metres;
        int parts;
        final boolean[] contacts = new boolean[2];
        int boots;

        /** How long the next STEP takes; NONE if the wheel stands. */
        int stepTicks() {
            if (starter && rpm < 250) {
                rpm = 250;
            }
            if (rpm < 50) {
                rpm = 0;
                return NONE;
            }
            return 1000000 / rpm;
        }

        void speedUp(int fuel) {
            rpm = Math.min(9000, rpm + Math.min(fuel, 12000) / 64);
        }

        void slowDown() {
            rpm = Math.max(0, rpm - (rpm / 64 + load / 4));
        }

        void moveFlap(boolean powered, int duty) {
            int by = powered ? duty / 20 : clip(60 - flap, -10, 10);
            flap = clip(flap + by, 0, 1000);
        }

        void warm(boolean fan) {
            heat = rpm >= 400 ? Math.min(130, heat + 1) : Math.max(20, heat - 1);
            if (fan && heat > 60) {
                heat -= 2;
            }
        }

        void roll() {
            if (auto && gear >= 1 && gear <= RATIOS.length) {
                int goal = Math.min(30000, rpm * RATIOS[gear - 1] / 100);
                v += clip(goal - v, -50, 50);
            } else if (auto) {
                v = Math.max(0, v - 5);
            }
            parts += v;
            if (parts >= 36000) {
                parts -= 36000;
                metres++;
            }
        }
    }
}
