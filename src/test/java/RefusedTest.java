import java.util.function.Supplier;

/**
 * Each call that is refused: the exception that is due, the one that its comment lists first where
 * several apply, and all that other calls show unchanged behind it, at once and later on.
 */
public final class RefusedTest {
    private static final int LEAST = Integer.MIN_VALUE;
    private static final int MOST = Integer.MAX_VALUE;

    public static void main(String[] args) {
        shape();
        gas();
        cellIndex();
        cellArgument();
        cellState();
        ignition();
        stepArgument();
        stepState();
        tubeAndAnew();
        probeCameIsKept();
        frontArgument();
        frontState();
        tick();
        ofFront();
        pipe();
        valve();
        reservoir();
        flow();
        node();
        keep();
        goBack();
        Check.end("RefusedTest");
    }

    // ---- objects on which they are made

    /** Four cells, three fronts, a pipe of three reaches; kept at 2 alone. */
    private static ShockTube busy() {
        ShockTube x = new ShockTube();
        x.shape(4, ShockTube.OPEN, ShockTube.WALL);
        x.gas(ShockTube.HELIUM);
        x.cell(1, 1500, 60, 7000, 600);
        x.ignition(100, 40, 8);
        x.step(40, 5);
        x.front(ShockTube.SHOCK, 100, 50, 30);
        x.front(ShockTube.CONTACT, 300, -20, 11);
        x.front(ShockTube.SHOCK, 900, -35, 10);
        x.tick(2);
        x.pipe(3, 10, 1, 2, 400, 20);
        x.valve(30);
        x.reservoir(350);
        x.flow(3);
        x.keep(2);
        x.cell(2, 1200, -70, 6000, 300);
        return x;
    }

    private static ShockTube bare() {
        return new ShockTube();
    }

    private static ShockTube worn() {
        ShockTube x = new ShockTube();
        x.shape(2, ShockTube.WALL, ShockTube.OPEN);
        x.cell(0, 1100, 5, 2500, 10);
        for (int i = 0; i < 5; i++) {
            x.step(3, 50);
        }
        x.step(3, 49);
        return x;
    }

    private static ShockTube full() {
        ShockTube x = new ShockTube();
        for (int i = 0; i < 8; i++) {
            x.front(i % 3, 1000 * i, 10 * i, i + 1);
        }
        return x;
    }

    // ---- what is looked at

    private static void refused(String exception, String name, int... given) {
        on(RefusedTest::busy, exception, name, given);
    }

    private static void on(Supplier<ShockTube> made, String exception, String name, int... given) {
        String call = name + java.util.Arrays.toString(given);
        ShockTube x = made.get();
        ShockTube twin = made.get();
        Check.same(call, Check.outcome(() -> new Face(x, null).call(name, given)), exception);
        Check.row("all behind " + call, Shown.all(x), Shown.all(twin));
        goOn(x);
        goOn(twin);
        Check.row("later behind " + call, Shown.all(x), Shown.all(twin));
        for (int slot = 0; slot < 4; slot++) {
            int there = slot;
            Check.same("slot " + slot + " behind " + call, back(x, there), back(twin, there));
        }
        Check.row("kept behind " + call, Shown.all(x), Shown.all(twin));
    }

    private static String back(ShockTube x, int slot) {
        return Check.outcome(() -> {
            x.goBack(slot);
            return 0;
        });
    }

    /** Shows the gas, the ignition, the ends and the pipe's numbers, which no call tells by itself. */
    private static void goOn(ShockTube x) {
        if (x.steps() < 299) {
            x.step(35, 2);
        }
        x.tick(3);
        Check.outcome(() -> x.flow(4));
    }

    private static void allowed(String name, int... given) {
        ShockTube x = busy();
        String outcome = Check.outcome(() -> new Face(x, null).call(name, given));
        String call = name + java.util.Arrays.toString(given);
        Check.same(call + " is allowed", outcome.endsWith("Exception") ? outcome : "allowed", "allowed");
    }

    /** One argument after the other at its last values and at the first ones beyond. */
    private static void edges(String name, int[] right, int argument, int low, int high) {
        int[] lasts = {low, high};
        int[] firsts = {low - 1, high + 1, LEAST, MOST};
        for (int last : lasts) {
            allowed(name, with(right, argument, last));
        }
        for (int first : firsts) {
            refused(Check.IAE, name, with(right, argument, first));
        }
    }

    private static int[] with(int[] given, int argument, int value) {
        int[] changed = given.clone();
        changed[argument] = value;
        return changed;
    }

    // ---- the tube

    private static void shape() {
        int[] right = {5, 0, 1};
        edges("shape", right, 0, 2, 32);
        edges("shape", right, 1, 0, 1);
        edges("shape", right, 2, 0, 1);
        on(RefusedTest::bare, Check.IAE, "shape", 1, 1, 1);
        on(RefusedTest::worn, Check.IAE, "shape", 33, 1, 1);
    }

    private static void gas() {
        edges("gas", new int[] {0}, 0, 0, 2);
    }

    private static void cellIndex() {
        int[] right = {0, 1000, 0, 2000, 0};
        allowed("cell", 0, 1000, 0, 2000, 0);
        allowed("cell", 3, 1000, 0, 2000, 0);
        for (int cell : new int[] {-1, 4, LEAST, MOST}) {
            refused(Check.IOB, "cell", with(right, 0, cell));
        }
        on(RefusedTest::bare, Check.IOB, "cell", 8, 1000, 0, 2000, 0);
        refused(Check.IOB, "cell", 4, 0, 0, 2000, 0);
        refused(Check.IOB, "cell", -1, 1000, 0, 2000, 1001);
        refused(Check.IOB, "cell", 4, 1000, 5000, 0, 0);
        refused(Check.IOB, "cell", 4, 0, 5000, -1, 0);
    }

    private static void cellArgument() {
        edges("cell", new int[] {1, 1000, 0, 2000, 0}, 1, 1, 1000000);
        edges("cell", new int[] {1, 1000000, 0, 100000000, 0}, 2, -10000000, 10000000);
        edges("cell", new int[] {1, 1000, 0, 2000, 0}, 3, 0, 1000000000);
        edges("cell", new int[] {1, 1000, 0, 2000, 0}, 4, 0, 1000);
        edges("cell", new int[] {1, 1, 0, 2000, 0}, 4, 0, 1);
        edges("cell", new int[] {1, 1000000, 0, 2000, 0}, 4, 0, 1000000);
        refused(Check.IAE, "cell", 1, 0, 10000000, 0, 0);
        refused(Check.IAE, "cell", 1, 1000, 10000001, 0, 0);
        refused(Check.IAE, "cell", 1, 1000, 5000, -1, 0);
        refused(Check.IAE, "cell", 1, 1000, 5000, 0, 1001);
    }

    /** 100 times 100 by 2000 is 5; 109 times 109 by 2000 is 5.94, 110 times 110 by 2000 is 6.05. */
    private static void cellState() {
        allowed("cell", 1, 1000, 100, 5, 0);
        refused(Check.ISE, "cell", 1, 1000, 100, 4, 0);
        allowed("cell", 1, 1000, -109, 5, 0);
        refused(Check.ISE, "cell", 1, 1000, -110, 5, 0);
        allowed("cell", 1, 1, 1, 0, 0);
        refused(Check.ISE, "cell", 1, 1, 2, 1, 0);
        allowed("cell", 1, 1000000, 10000000, 50000000, 0);
        refused(Check.ISE, "cell", 1, 1000000, -10000000, 49999999, 0);
        allowed("cell", 1, 1, 44721, 1000000000, 0);
        refused(Check.ISE, "cell", 1, 1, 44722, 1000000000, 0);
        refused(Check.ISE, "cell", 1, 1, -10000000, 1000000000, 0);
    }

    private static void ignition() {
        int[] right = {50, 50, 50};
        edges("ignition", right, 0, 0, 100000);
        edges("ignition", right, 1, 0, 100);
        edges("ignition", right, 2, 0, 1000);
    }

    private static void stepArgument() {
        int[] right = {20, 2};
        edges("step", right, 0, 1, 400);
        edges("step", right, 1, 1, 50);
    }

    private static void stepState() {
        on(RefusedTest::worn, Check.ISE, "step", 3, 2);
        on(RefusedTest::worn, Check.ISE, "step", 400, 50);
        on(RefusedTest::worn, Check.IAE, "step", 3, 51);
        on(RefusedTest::worn, Check.IAE, "step", 401, 2);
        on(RefusedTest::worn, Check.IAE, "step", 0, 2);
    }

    private static void tubeAndAnew() {
        asked("tube", 3, 7);
        asked("anew", 3, 3);
        asked("probe", 3, 1);
        on(RefusedTest::bare, Check.IOB, "tube", 8, 0);
        on(RefusedTest::bare, Check.IOB, "anew", 8, 0);
        on(RefusedTest::bare, Check.IOB, "probe", 8, 0);
    }

    /** Of one that tells by two numbers, the last ones that there are. */
    private static void asked(String name, int last, int lastWhat) {
        allowed(name, 0, 0);
        allowed(name, last, lastWhat);
        for (int none : new int[] {-1, last + 1, LEAST, MOST}) {
            refused(Check.IOB, name, none, 0);
            refused(Check.IOB, name, none, lastWhat + 1);
            refused(Check.IOB, name, none, -1);
        }
        for (int none : new int[] {-1, lastWhat + 1, LEAST, MOST}) {
            refused(Check.IAE, name, 0, none);
            refused(Check.IAE, name, last, none);
        }
    }

    private static void probeCameIsKept() {
        edges("came", new int[] {0}, 0, 0, 5);
        edges("isKept", new int[] {0}, 0, 0, 3);
    }

    // ---- fronts

    private static void frontArgument() {
        int[] right = {1, 500, 20, 30};
        edges("front", right, 0, 0, 2);
        edges("front", right, 1, 0, 100000);
        edges("front", right, 2, -900, 900);
        edges("front", right, 3, 1, 900);
    }

    private static void frontState() {
        on(RefusedTest::full, Check.ISE, "front", 0, 0, 0, 1);
        on(RefusedTest::full, Check.ISE, "front", 2, 100000, 900, 900);
        on(RefusedTest::full, Check.IAE, "front", 3, 0, 0, 1);
        on(RefusedTest::full, Check.IAE, "front", 0, 100001, 0, 1);
        on(RefusedTest::full, Check.IAE, "front", 0, 0, 901, 1);
        on(RefusedTest::full, Check.IAE, "front", 0, 0, 0, 0);
    }

    private static void tick() {
        edges("tick", new int[] {1}, 0, 1, 100);
        on(RefusedTest::bare, Check.IAE, "tick", 0);
    }

    private static void ofFront() {
        asked("ofFront", 2, 3);
        on(RefusedTest::bare, Check.IOB, "ofFront", 0, 0);
        on(RefusedTest::bare, Check.IOB, "ofFront", 0, 4);
        on(RefusedTest::full, Check.IOB, "ofFront", 8, 0);
        on(RefusedTest::full, Check.IAE, "ofFront", 7, 4);
    }

    // ---- the pipe

    private static void pipe() {
        int[] right = {4, 7, 3, 2, 300, 20};
        edges("pipe", right, 0, 1, 20);
        edges("pipe", right, 1, 1, 50);
        edges("pipe", right, 2, 0, 20);
        edges("pipe", right, 3, 1, 50);
        edges("pipe", right, 4, 0, 2000);
        edges("pipe", right, 5, -100, 100);
        on(RefusedTest::bare, Check.IAE, "pipe", 0, 7, 3, 2, 300, 20);
    }

    private static void valve() {
        edges("valve", new int[] {1}, 0, 0, 100);
        on(RefusedTest::bare, Check.ISE, "valve", 0);
        on(RefusedTest::bare, Check.ISE, "valve", 100);
        on(RefusedTest::bare, Check.IAE, "valve", -1);
        on(RefusedTest::bare, Check.IAE, "valve", 101);
    }

    private static void reservoir() {
        edges("reservoir", new int[] {1}, 0, 0, 2000);
        on(RefusedTest::bare, Check.ISE, "reservoir", 0);
        on(RefusedTest::bare, Check.ISE, "reservoir", 2000);
        on(RefusedTest::bare, Check.IAE, "reservoir", -1);
        on(RefusedTest::bare, Check.IAE, "reservoir", 2001);
    }

    private static void flow() {
        edges("flow", new int[] {1}, 0, 1, 100);
        on(RefusedTest::bare, Check.ISE, "flow", 1);
        on(RefusedTest::bare, Check.ISE, "flow", 100);
        on(RefusedTest::bare, Check.IAE, "flow", 0);
        on(RefusedTest::bare, Check.IAE, "flow", 101);
    }

    private static void node() {
        asked("node", 3, 3);
        on(RefusedTest::bare, Check.IOB, "node", 0, 0);
        on(RefusedTest::bare, Check.IOB, "node", 0, 4);
    }

    // ---- what is kept

    private static void keep() {
        edges("keep", new int[] {0}, 0, 0, 3);
        on(RefusedTest::bare, Check.IAE, "keep", 4);
    }

    private static void goBack() {
        allowed("goBack", 2);
        for (int slot : new int[] {0, 1, 3}) {
            refused(Check.ISE, "goBack", slot);
            on(RefusedTest::bare, Check.ISE, "goBack", slot);
        }
        for (int slot : new int[] {-1, 4, LEAST, MOST}) {
            refused(Check.IAE, "goBack", slot);
            on(RefusedTest::bare, Check.IAE, "goBack", slot);
        }
    }
}
