/**
 * Runs of calls on a ShockTube and on the Model, each answer compared. A run makes at most 512
 * calls, as no more are promised. The runs are the same each time.
 */
public final class RandomTest {
    private static final int MOST_CALLS = 512;
    private static final int[] ODD = {Integer.MIN_VALUE, -2, -1, 0, 1, 2, 3, 4, 8, 31, 32, 100, 101, Integer.MAX_VALUE};

    private final int run;
    private final ShockTube real = new ShockTube();
    private final Model model = new Model();
    private long seed;
    private int calls;

    private RandomTest(int run) {
        this.run = run;
        this.seed = run * 7919L + 17;
    }

    public static void main(String[] args) {
        for (int i = 0; i < 400; i++) {
            new RandomTest(i).mixed(60);
            new RandomTest(1000 + i).gasRun();
            new RandomTest(2000 + i).frontRun();
            new RandomTest(4000 + i).frontRun();
            new RandomTest(5000 + i).pipeRun();
            new RandomTest(7000 + i).pipeRun();
        }
        for (int i = 0; i < 60; i++) {
            new RandomTest(9000 + i).mixed(300);
            new RandomTest(9500 + i).wrongRun();
        }
        Check.end("RandomTest");
    }

    private int any(int low, int high) {
        seed = seed * 6364136223846793005L + 1442695040888963407L;
        return low + (int) ((seed >>> 33) % (high - low + 1L));
    }

    private boolean oneIn(int n) {
        return any(1, n) == 1;
    }

    /** Mostly in its range, now and then an edge of it, seldom beyond. */
    private int about(int low, int high) {
        switch (any(0, 39)) {
            case 0:
                return low - 1;
            case 1:
                return high + 1;
            case 2:
            case 3:
                return low;
            case 4:
            case 5:
                return high;
            case 6:
                return ODD[any(0, ODD.length - 1)];
            default:
                return any(low, high);
        }
    }

    private interface Call {
        long on(Face face);
    }

    private void same(String call, Call what) {
        if (calls >= MOST_CALLS) {
            return;
        }
        calls++;
        String got = Check.outcome(() -> what.on(new Face(real, null)));
        String want = Check.outcome(() -> what.on(new Face(null, model)));
        Check.same("run " + run + ", call " + calls + ": " + call, got, want);
    }

    // ---- runs

    private void mixed(int length) {
        for (int i = 0; i < length; i++) {
            switch (any(0, 9)) {
                case 0:
                case 1:
                case 2:
                    changeTube();
                    break;
                case 3:
                case 4:
                    changeFronts();
                    break;
                case 5:
                case 6:
                    changePipe();
                    break;
                case 7:
                    changeKept();
                    break;
                default:
                    askOne();
                    break;
            }
        }
        askAll();
    }

    private void gasRun() {
        call("shape", any(2, 12), any(0, 1), any(0, 1));
        int many = model.many();
        int scale = any(0, 3);
        for (int i = 0; i < many; i++) {
            tellCell(i, scale);
        }
        for (int i = any(3, 12); i > 0; i--) {
            if (oneIn(4)) {
                call("gas", any(0, 2));
            }
            if (oneIn(3)) {
                call("ignition", oneIn(2) ? any(0, 1000) : any(0, 100000), any(0, 100), any(0, oneIn(2) ? 20 : 1000));
            }
            if (oneIn(5)) {
                tellCell(any(0, many - 1), scale);
            }
            if (oneIn(8)) {
                changeKept();
            }
            call("step", any(1, oneIn(5) ? 400 : 60), any(1, 10));
            call("anew", any(0, many - 1), any(0, 3));
        }
        askTube();
    }

    private void tellCell(int cell, int scale) {
        if (scale == 3) {
            int mass = any(900000, 1000000);
            call("cell", cell, mass, any(-1000000, 1000000), any(990000000, 1000000000), any(0, mass));
        } else {
            int mass = scale == 2 ? any(1, 30) : any(500, 3000);
            int momentum = any(-mass * 2, mass * 2);
            call("cell", cell, mass, momentum, any(mass * 4, mass * (scale == 0 ? 6 : 40)), any(0, mass));
        }
    }

    private void frontRun() {
        boolean isNear = oneIn(2);
        for (int i = 0; i < 8; i++) {
            int place = isNear ? any(0, 30) * 100 : any(0, 100000);
            int speed = oneIn(3) ? any(-2, 2) * 100 : any(-900, 900);
            call("front", any(0, 2) * any(0, 1), place, speed, oneIn(4) ? any(1, 3) : any(1, 900));
        }
        for (int i = any(4, 12); i > 0; i--) {
            call("tick", isNear ? any(1, 3) : any(1, 100));
            if (oneIn(3)) {
                call("front", any(0, 2), isNear ? any(0, 30) * 100 : any(0, 100000), any(-900, 900), any(1, 900));
            }
            askFronts();
        }
    }

    private void pipeRun() {
        call("pipe", any(1, 20), any(1, 50), oneIn(2) ? any(0, 20) : any(0, 3), any(1, 50), any(0, 2000), any(-100, 100));
        for (int i = any(3, 10); i > 0; i--) {
            if (oneIn(2)) {
                call("valve", oneIn(3) ? 0 : any(0, 100));
            }
            if (oneIn(3)) {
                call("reservoir", oneIn(3) ? 0 : any(0, 2000));
            }
            call("flow", oneIn(2) ? any(1, 4) : any(1, 60));
            askNode(any(0, 20));
            askNode(model.now.nodes.size() - 1);
            if (oneIn(12)) {
                changeKept();
            }
        }
        askPipe();
    }

    /** Nothing but numbers from everywhere: no call may throw what the document does not tell. */
    private void wrongRun() {
        String[] names = Face.NAMES;
        for (int i = 0; i < 400; i++) {
            int[] given = new int[6];
            for (int k = 0; k < given.length; k++) {
                given[k] = oneIn(3) ? any(0, 3) : ODD[any(0, ODD.length - 1)];
            }
            call(names[any(0, names.length - 1)], given);
        }
        askTube();
    }

    // ---- calls

    private void changeTube() {
        switch (any(0, 9)) {
            case 0:
                call("shape", about(2, 32), about(0, 1), about(0, 1));
                break;
            case 1:
                call("gas", about(0, 2));
                break;
            case 2:
                call("ignition", oneIn(2) ? any(0, 500) : about(0, 100000), about(0, 100), about(0, oneIn(3) ? 1000 : 30));
                break;
            case 3:
                call("cell", about(0, model.many() - 1), about(1, 1000000), about(-10000000, 10000000),
                        about(0, 1000000000), about(0, 1000000));
                break;
            case 4:
            case 5:
                tellCell(about(0, model.many() - 1), any(0, 1));
                break;
            default:
                call("step", oneIn(3) ? about(1, 400) : about(1, 60), about(1, oneIn(6) ? 50 : 5));
                break;
        }
    }

    private void changeFronts() {
        if (oneIn(3)) {
            call("tick", about(1, 100));
        } else {
            call("front", about(0, 2), about(0, 100000), about(-900, 900), about(1, 900));
        }
    }

    private void changePipe() {
        switch (any(0, 6)) {
            case 0:
                call("pipe", about(1, 20), about(1, 50), about(0, 20), about(1, 50), about(0, 2000), about(-100, 100));
                break;
            case 1:
                call("valve", about(0, 100));
                break;
            case 2:
                call("reservoir", about(0, 2000));
                break;
            default:
                call("flow", about(1, 100));
                break;
        }
    }

    private void changeKept() {
        call(oneIn(2) ? "keep" : "goBack", about(0, 3));
    }

    private void askOne() {
        switch (any(0, 8)) {
            case 0:
                call("tube", about(0, model.many() - 1), about(0, 7));
                break;
            case 1:
                call("anew", about(0, model.many() - 1), about(0, 3));
                break;
            case 2:
                call("probe", about(0, model.many() - 1), about(0, 1));
                break;
            case 3:
                call("came", about(0, 5));
                break;
            case 4:
                call("isKept", about(0, 3));
                break;
            case 5:
                call("ofFront", about(0, Math.max(0, model.fronts() - 1)), about(0, 3));
                break;
            case 6:
                call("node", about(0, Math.max(0, model.now.nodes.size() - 1)), about(0, 3));
                break;
            default:
                call(oneIn(2) ? "many" : oneIn(2) ? "steps" : "fronts");
                break;
        }
    }

    private void askAll() {
        askFronts();
        askTube();
        askPipe();
    }

    private void askTube() {
        call("many");
        call("steps");
        for (int what = 0; what < 6; what++) {
            call("came", what);
        }
        for (int what = 0; what < 4; what++) {
            call("isKept", what);
        }
        for (int cell = 0; cell < model.many(); cell++) {
            for (int what = 0; what < 8; what++) {
                call("tube", cell, what);
            }
            call("anew", cell, cell % 4);
            call("anew", cell, (cell + 1) % 4);
            call("probe", cell, 0);
            call("probe", cell, 1);
        }
    }

    private void askFronts() {
        call("fronts");
        for (int front = 0; front < model.fronts(); front++) {
            for (int what = 0; what < 4; what++) {
                call("ofFront", front, what);
            }
        }
    }

    private void askPipe() {
        for (int node = 0; node < model.now.nodes.size(); node++) {
            askNode(node);
        }
    }

    private void askNode(int node) {
        for (int what = 0; what < 4; what++) {
            call("node", node, what);
        }
    }

    private void call(String name, int... given) {
        int[] a = java.util.Arrays.copyOf(given, 6);
        same(name + java.util.Arrays.toString(given), face -> face.call(name, a));
    }
}
