/**
 * The sentences of "The tube" and of promises 1 to 13 that name an edge, each with a test of its
 * own: what is still so, and what is so no more. Calls that are refused stand in RefusedTest.
 */
public final class TubeEdgeTest {
    private static final int OPEN = ShockTube.OPEN;
    private static final int WALL = ShockTube.WALL;

    public static void main(String[] args) {
        eightCellsAtFirst();
        aWallAtEachEndAtFirst();
        oneOpenEndAlone();
        airAtFirst();
        nothingWithin();
        pressureIsRoundedDown();
        speedIsRoundedDown();
        rootOfASquare();
        temperatureIsHeldToAnInt();
        massIsRoundedDownBelowZero();
        fuelOfTheOneThatItLeaves();
        fuelIsRoundedDownBothWays();
        energyIsRoundedDownBelowZero();
        speedCountsWithoutItsSign();
        allIsFoundFirst();
        oneBorderIsTooFast();
        massAtTheMost();
        fuelIsAllTheMass();
        energyAtTheMostAheadOfBurning();
        energyAtTheMostBehindBurning();
        nothingWithinBehindAStep();
        burnsByWhatIsBehindTheStep();
        burnsAtIgnition();
        hundredthsAreRoundedDown();
        heatAtItsEnds();
        probesAtBothEnds();
        probeOfTheFirstStep();
        probeStaysWithTheGas();
        probeNeverAboveZero();
        stepsAreCountedFromTheBeginning();
        threeHundredSteps();
        noneOfManyIsDone();
        shapeOfTheLeastAndTheMost();
        anewWithoutSteps();
        anewBehindARefusedStep();
        anewFromShapeOn();
        anewInTheLastCall();
        cameAnewFromShapeOn();
        Check.end("TubeEdgeTest");
    }

    private static int[] c(int mass, int momentum, int energy, int fuel) {
        return new int[] {mass, momentum, energy, fuel};
    }

    private static ShockTube with(int left, int right, int[]... cells) {
        ShockTube x = new ShockTube();
        x.shape(cells.length, left, right);
        for (int i = 0; i < cells.length; i++) {
            x.cell(i, cells[i][0], cells[i][1], cells[i][2], cells[i][3]);
        }
        return x;
    }

    /** Eight cells at rest between walls: but for burning, nothing ever changes in them. */
    private static ShockTube still(int mass, int energy, int fuel) {
        ShockTube x = new ShockTube();
        for (int i = 0; i < 8; i++) {
            x.cell(i, mass, 0, energy, fuel);
        }
        return x;
    }

    private static void cell(String when, ShockTube x, int cell, long... want) {
        long[] got = {x.tube(cell, 0), x.tube(cell, 1), x.tube(cell, 2), x.tube(cell, 3)};
        Check.row(when + ": cell " + cell, got, want);
        long[] anew = {x.anew(cell, 0), x.anew(cell, 1), x.anew(cell, 2), x.anew(cell, 3)};
        Check.row(when + ": cell " + cell + " anew", anew, want);
    }

    private static void isRefused(String why, ShockTube x, int t) {
        long[] before = Shown.all(x);
        Check.same(why, x.step(t, 50), 0);
        Check.row(why + ": the tube stays", Shown.all(x), before);
        for (int what = 0; what < 4; what++) {
            Check.same(why + ": isKept", x.isKept(what) ? 1 : 0, 1);
        }
    }

    private static void eightCellsAtFirst() {
        ShockTube x = new ShockTube();
        Check.same("8 at first", x.many(), 8);
        cell("the first one", x, 0, 1000, 0, 2000, 0);
        cell("the last one", x, 7, 1000, 0, 2000, 0);
        Check.fails("and no more", Check.IOB, () -> x.tube(8, 0));
    }

    /** An end that is OPEN would let 2 of mass go out. */
    private static void aWallAtEachEndAtFirst() {
        ShockTube x = new ShockTube();
        x.cell(0, 1000, -20, 2000, 0);
        x.step(100, 1);
        cell("a wall to the left", x, 0, 1001, -16, 2003, 0);
        Check.same("nothing goes to the left", x.came(0), 0);
        Check.same("momentum does", x.came(1), 2);
        x = new ShockTube();
        x.cell(7, 1000, 20, 2000, 0);
        x.step(100, 1);
        cell("a wall to the right", x, 7, 1001, 16, 2002, 0);
        Check.same("nothing goes to the right", x.came(0), 0);
        Check.same("momentum does to the right", x.came(1), -2);
    }

    private static void oneOpenEndAlone() {
        ShockTube x = with(OPEN, WALL, c(1000, 20, 2000, 500), c(1000, 20, 2000, 500));
        x.step(100, 1);
        cell("open to the left", x, 0, 1000, 20, 2000, 500);
        cell("a wall to the right", x, 1, 1002, 18, 2005, 501);
        came("in from the left", x, 2, -2, 5, 1);
        x = with(WALL, OPEN, c(1000, 20, 2000, 500), c(1000, 20, 2000, 500));
        x.step(100, 1);
        came("out to the right", x, -2, -3, -5, -1);
        x = with(OPEN, WALL, c(1000, -20, 2000, 500), c(1000, -20, 2000, 500));
        x.step(100, 1);
        came("out to the left", x, -2, 3, -6, -1);
        x = with(WALL, OPEN, c(1000, -20, 2000, 500), c(1000, -20, 2000, 500));
        x.step(100, 1);
        came("in from the right", x, 2, 2, 6, 1);
    }

    private static void came(String when, ShockTube x, long... want) {
        Check.row(when, new long[] {x.came(0), x.came(1), x.came(2), x.came(3)}, want);
        Check.same(when + ": no burning", x.came(4) + x.came(5), 0);
    }

    private static void airAtFirst() {
        Check.same("2 fifths", new ShockTube().tube(0, 4), 800);
        ShockTube x = new ShockTube();
        x.gas(ShockTube.STEAM);
        x.gas(ShockTube.AIR);
        Check.same("and again", x.tube(7, 4), 800);
    }

    private static void nothingWithin() {
        ShockTube x = with(WALL, WALL, c(1000, 100, 5, 0), c(1, 0, 0, 0));
        for (int what = 4; what < 8; what++) {
            Check.same("nothing but speed, " + what, x.tube(0, what), what == 5 ? 100 : 0);
            Check.same("nothing at all, " + what, x.tube(1, what), 0);
        }
    }

    private static void pressureIsRoundedDown() {
        int[][] within = {{0, 0, 0, 0}, {1, 0, 0, 0}, {2, 0, 1, 0}, {3, 1, 2, 1}, {4, 1, 2, 1}, {5, 2, 3, 1},
            {6, 2, 4, 2}, {1000000000, 400000000, 666666666, 333333333}};
        for (int[] w : within) {
            ShockTube x = with(WALL, WALL, c(1000, 0, w[0], 0), c(1000, 0, 0, 0));
            for (int gas = 0; gas < 3; gas++) {
                x.gas(gas);
                Check.same("pressure of " + w[0] + " in gas " + gas, x.tube(0, 4), w[1 + gas]);
            }
        }
    }

    private static void speedIsRoundedDown() {
        int[][] speeds = {{1000, -1, -1}, {1001, -1, -1}, {1001, 1, 0}, {2000, -1, -1}, {999, 1, 1}, {999, -1, -2},
            {1, 44721, 44721000}, {1, -44721, -44721000}, {1000000, 10000000, 10000}, {1000000, -10000000, -10000}};
        for (int[] s : speeds) {
            ShockTube x = with(WALL, WALL, c(s[0], s[1], 1000000000, 0), c(1000, 0, 0, 0));
            Check.same("speed of " + s[1] + " by " + s[0], x.tube(0, 5), s[2]);
        }
    }

    /** Within 88 is a pressure of 35 in AIR: 35 times 7 times 1000000 by 5 is 7000 times 7000. */
    private static void rootOfASquare() {
        int[][] sounds = {{0, 1, 88, 7000}, {0, 35, 98, 1248}, {1, 1, 23, 5000}, {1, 91, 14, 405},
            {2, 1, 9, 2000}, {2, 62, 123, 938}};
        for (int[] s : sounds) {
            ShockTube x = with(WALL, WALL, c(s[1], 0, s[2], 0), c(1000, 0, 0, 0));
            x.gas(s[0]);
            Check.same("sound of " + s[2] + " by " + s[1] + " in gas " + s[0], x.tube(0, 6), s[3]);
        }
    }

    /** The pressure is 21474836, or one more; its hundredfold is within an int, or beyond. */
    private static void temperatureIsHeldToAnInt() {
        ShockTube x = with(WALL, WALL, c(1, 0, 53687090, 0), c(1, 0, 53687093, 0));
        Check.same("as it is", x.tube(0, 7), 2147483600);
        Check.same("at most the greatest int", x.tube(1, 7), Integer.MAX_VALUE);
        x = with(WALL, WALL, c(300, 0, 10, 0), c(401, 0, 10, 0));
        Check.same("400 by 300, rounded down", x.tube(0, 7), 1);
        Check.same("400 by 401, rounded down", x.tube(1, 7), 0);
    }

    /** With masses alike, t 100 and momenta of 20 together, what goes is 1. */
    private static void massIsRoundedDownBelowZero() {
        int[][] goes = {{10, 10, 1}, {10, 9, 0}, {1, 0, 0}, {0, 0, 0}, {0, -1, -1}, {-10, -9, -1}, {-10, -10, -1},
            {-10, -11, -2}};
        for (int[] g : goes) {
            ShockTube x = with(WALL, WALL, c(1000, g[0], 2000, 0), c(1000, g[1], 2000, 0));
            x.step(100, 1);
            Check.same("mass with " + g[0] + " and " + g[1], x.tube(0, 0), 1000 - g[2]);
            Check.same("and on the other side", x.tube(1, 0), 1000 + g[2]);
        }
    }

    private static void fuelOfTheOneThatItLeaves() {
        fuelIs("1 of 1000 of a full one", 10, 10, 1000, 0, 999, 1);
        fuelIs("1 of 1000 that is not full", 10, 10, 999, 0, 999, 0);
        fuelIs("none of the one that it comes to", 10, 10, 0, 1000, 0, 1000);
        fuelIs("none without mass", 10, 9, 1000, 0, 1000, 0);
        fuelIs("1 to the left of a full one", -10, -10, 0, 1000, 1, 999);
        fuelIs("1 to the left that is not full", -10, -10, 0, 999, 0, 999);
        fuelIs("none of the left one", -10, -10, 1000, 0, 1000, 0);
    }

    private static void fuelIs(String when, int p, int q, int fuel, int other, int then, int otherThen) {
        ShockTube x = with(WALL, WALL, c(1000, p, 2000, fuel), c(1000, q, 2000, other));
        Check.same(when, x.step(100, 1), 1);
        Check.same(when + ", to the left", x.tube(0, 3), then);
        Check.same(when + ", to the right", x.tube(1, 3), otherThen);
        Check.same(when + ", anew", x.anew(1, 3), otherThen);
    }

    /** 3 of mass take 1.5 of fuel along: the sign is turned behind the rounding. */
    private static void fuelIsRoundedDownBothWays() {
        fuelIs("1 of 1.5", 30, 30, 500, 0, 499, 1);
        fuelIs("1 of 1.5 to the left", -30, -30, 0, 500, 1, 499);
    }

    /** 2800 times -27 by 1500 is -51, rounded down; 200 times -51000 by 2000000 is -6. */
    private static void energyIsRoundedDownBelowZero() {
        ShockTube x = with(WALL, WALL, c(1000, 0, 2000, 0), c(1500, -27, 2000, 0));
        x.step(200, 1);
        cell("6 came", x, 0, 1056, -2, 2006, 0);
        cell("6 went", x, 1, 1444, -20, 1994, 0);
    }

    /** A speed of 600 and a sound of 1180 are 1780, to whatever side it is. */
    private static void speedCountsWithoutItsSign() {
        ShockTube x = with(WALL, WALL, c(1000, 0, 2000, 0), c(1500, -900, 4000, 0));
        x.step(100, 1);
        cell("the right one to the left", x, 0, 1090, -141, 2343, 0);
        cell("the right one to the left", x, 1, 1410, -722, 3657, 0);
        x = with(WALL, WALL, c(1500, 900, 4000, 0), c(1000, 0, 2000, 0));
        x.step(100, 1);
        cell("the left one to the right", x, 0, 1411, 722, 3658, 0);
        cell("the left one to the right", x, 1, 1089, 141, 2342, 0);
    }

    /** From left to right, or from right to left, one behind the other would not be alike. */
    private static void allIsFoundFirst() {
        ShockTube x = with(OPEN, OPEN, c(1000, 0, 2000, 0), c(1000, 0, 9000, 0), c(1000, 0, 2000, 0));
        x.step(100, 1);
        cell("to the left", x, 0, 1000, -140, 2786, 0);
        cell("between", x, 1, 1000, 0, 7429, 0);
        cell("to the right", x, 2, 1000, 140, 2785, 0);
    }

    /** The sound is 1250 with an energy of 2793, 1251 with 2795: 400 times that is above 500000. */
    private static void oneBorderIsTooFast() {
        for (int i = 0; i < 8; i++) {
            ShockTube x = new ShockTube();
            x.cell(i, 1000, 0, 2795, 0);
            Check.same("sound", x.tube(i, 6), 1251);
            isRefused("400 times 1251 at " + i, x, 400);
            x.cell(i, 1000, 0, 2793, 0);
            Check.same("400 times 1250 at " + i, x.step(400, 1), 1);
        }
    }

    private static void massAtTheMost() {
        ShockTube x = with(WALL, WALL, c(999999, 10, 1000000, 0), c(999999, 10, 1000000, 0));
        Check.same("1000000", x.step(100, 1), 1);
        cell("at the most", x, 1, 1000000, 10, 1000001, 0);
        x = with(WALL, WALL, c(1000000, 10, 1000000, 0), c(1000000, 10, 1000000, 0));
        isRefused("1000001", x, 100);
        x = with(WALL, WALL, c(999999, -10, 1000000, 0), c(999999, -10, 1000000, 0));
        Check.same("1000000 to the left", x.step(100, 1), 1);
        Check.same("at the most to the left", x.tube(0, 0), 1000000);
        x = with(WALL, WALL, c(1000000, -10, 1000000, 0), c(1000000, -10, 1000000, 0));
        isRefused("1000001 to the left", x, 100);
    }

    /** To both sides 1 of mass goes, and of fuel each time 0.99, rounded down. */
    private static void fuelIsAllTheMass() {
        ShockTube x = with(OPEN, OPEN, c(1000, -20, 2000, 0), c(1000, 0, 2000, 998), c(1000, 20, 2000, 0));
        Check.same("998 of 998", x.step(100, 1), 1);
        cell("nothing but fuel", x, 1, 998, 0, 1995, 998);
        x = with(OPEN, OPEN, c(1000, -20, 2000, 0), c(1000, 0, 2000, 999), c(1000, 20, 2000, 0));
        isRefused("999 of 998", x, 100);
    }

    private static void energyAtTheMostAheadOfBurning() {
        ShockTube x = with(WALL, WALL, c(1000000, 1, 999999999, 0), c(1000000, 1, 999999999, 0));
        Check.same("1000000000", x.step(1, 1), 1);
        cell("at the most", x, 1, 1000000, 0, 1000000000, 0);
        x = with(WALL, WALL, c(1000000, 1, 1000000000, 0), c(1000000, 1, 1000000000, 0));
        isRefused("1000000001", x, 1);
    }

    private static void energyAtTheMostBehindBurning() {
        ShockTube x = still(1000000, 999999999, 100);
        x.ignition(0, 1, 1);
        Check.same("1000000000", x.step(1, 1), 1);
        cell("at the most", x, 3, 1000000, 0, 1000000000, 99);
        x = still(1000000, 999999999, 100);
        x.cell(5, 1000000, 0, 999999999, 200);
        x.ignition(0, 1, 1);
        isRefused("1000000001", x, 1);
    }

    /** A mass of 2 and a momentum of 3 take 9 by 4, rounded down: of an energy of 2 nothing is left. */
    private static void nothingWithinBehindAStep() {
        ShockTube x = with(WALL, WALL, c(3, -6, 6, 3), c(3, 4, 3, 2));
        Check.same("0 within", x.step(10, 1), 1);
        cell("0 within", x, 1, 2, 3, 2, 2);
        x = with(WALL, WALL, c(3, -6, 6, 3), c(3, 4, 2, 2));
        isRefused("less than 0 within", x, 10);
    }

    /** Behind it the temperatures are 90 and 189, ahead of it 80 and 200. */
    private static void burnsByWhatIsBehindTheStep() {
        int[][] burns = {{90, 10, 7}, {91, 0, 7}, {189, 0, 7}, {190, 0, 0}};
        for (int[] b : burns) {
            ShockTube x = with(WALL, WALL, c(1000, 0, 2000, 10), c(1000, 0, 5000, 7));
            Check.same("ahead", x.tube(0, 7) * 1000 + x.tube(1, 7), 80200);
            x.ignition(b[0], 100, 0);
            x.step(100, 1);
            cell("ignition " + b[0], x, 0, 1000, -60, 2251, 10 - b[1]);
            cell("ignition " + b[0], x, 1, 1000, -60, 4749, 7 - b[2]);
            Check.same("gone at " + b[0], x.came(5), b[1] + b[2]);
        }
    }

    private static void burnsAtIgnition() {
        ShockTube x = still(1000, 2500000, 1);
        x.ignition(100000, 100, 0);
        x.step(1, 1);
        Check.same("100000 at 100000", x.came(5), 8);
        x = still(1000, 2499999, 1);
        Check.same("one less", x.tube(0, 7), 99999);
        x.ignition(100000, 100, 0);
        x.step(1, 1);
        Check.same("99999 at 100000", x.came(5), 0);
        x = still(1000, 0, 1);
        x.ignition(0, 100, 0);
        x.step(1, 1);
        Check.same("0 at 0", x.came(5), 8);
        x = still(1000, 0, 1);
        x.ignition(1, 100, 0);
        x.step(1, 1);
        Check.same("0 at 1", x.came(5), 0);
    }

    private static void hundredthsAreRoundedDown() {
        int[][] parts = {{1, 99, 0}, {1, 100, 1}, {99, 1, 0}, {100, 1, 1}, {199, 1, 1}, {200, 1, 2}, {3, 50, 1},
            {1000, 0, 0}, {1000, 100, 1000}, {0, 100, 0}};
        for (int[] p : parts) {
            ShockTube x = still(1000, 2000, p[0]);
            x.ignition(0, p[1], 3);
            x.step(10, 1);
            cell(p[1] + " hundredths of " + p[0], x, 2, 1000, 0, 2000 + 3 * p[2], p[0] - p[2]);
            Check.same("energy of all", x.came(4), 24 * p[2]);
            Check.same("fuel of all", x.came(5), 8 * p[2]);
        }
    }

    private static void heatAtItsEnds() {
        for (int heat : new int[] {0, 1, 1000}) {
            ShockTube x = still(1000, 2000, 20);
            x.ignition(0, 50, heat);
            x.step(10, 1);
            cell("heat " + heat, x, 0, 1000, 0, 2000 + 10 * heat, 10);
            Check.same("heat of all " + heat, x.came(4), 80L * heat);
        }
    }

    private static void probesAtBothEnds() {
        ShockTube x = with(WALL, WALL, c(1000, 0, 2000, 0), c(1000, 0, 5000, 0));
        x.step(100, 1);
        Check.row("at 0", new long[] {x.probe(0, 0), x.probe(0, 1)}, 900, 1);
        Check.row("at 1", new long[] {x.probe(1, 0), x.probe(1, 1)}, 1899, 1);
        x = new ShockTube();
        x.shape(32, WALL, WALL);
        x.step(10, 3);
        Check.row("at 31", new long[] {x.probe(31, 0), x.probe(31, 1)}, 800, 1);
    }

    private static void probeOfTheFirstStep() {
        ShockTube x = still(1000, 2000, 0);
        x.step(10, 1);
        x.ignition(0, 100, 5);
        for (int i = 0; i < 8; i++) {
            x.cell(i, 1000, 0, 2000, 1);
        }
        Check.same("ahead of it", x.probe(4, 1), 1);
        x.step(10, 1);
        Check.row("greater by 2", new long[] {x.probe(4, 0), x.probe(4, 1)}, 802, 2);
        x.step(10, 5);
        Check.row("the same later", new long[] {x.probe(4, 0), x.probe(4, 1)}, 802, 2);
        isRefused("a refused one is none", tooFast(x), 400);
        Check.row("and stays", new long[] {x.probe(4, 0), x.probe(4, 1)}, 802, 2);
    }

    private static ShockTube tooFast(ShockTube x) {
        x.cell(6, 1000, 0, 900000, 0);
        return x;
    }

    private static void probeStaysWithTheGas() {
        ShockTube x = still(1000, 2000, 0);
        x.gas(ShockTube.HELIUM);
        x.step(10, 2);
        x.gas(ShockTube.STEAM);
        Check.row("of HELIUM", new long[] {x.probe(0, 0), x.probe(0, 1)}, 1333, 1);
        x.step(10, 2);
        Check.row("still of HELIUM", new long[] {x.probe(0, 0), x.probe(0, 1)}, 1333, 1);
        x.cell(0, 1000, 0, 5000, 0);
        Check.same("what is told is no step", x.probe(0, 0), 1333);
    }

    /** Within 2 is a pressure of 0 in AIR, within 3 one of 1. */
    private static void probeNeverAboveZero() {
        ShockTube x = still(1000, 2, 0);
        x.step(10, 4);
        Check.row("0 each", new long[] {x.probe(0, 0), x.probe(0, 1)}, 0, 0);
        x = still(1000, 3, 0);
        Check.row("0 without steps", new long[] {x.probe(0, 0), x.probe(0, 1)}, 0, 0);
        x.step(10, 4);
        Check.row("above 0", new long[] {x.probe(0, 0), x.probe(0, 1)}, 1, 1);
    }

    private static void stepsAreCountedFromTheBeginning() {
        ShockTube x = still(1000, 2, 0);
        x.step(10, 50);
        x.step(10, 7);
        for (int i = 0; i < 8; i++) {
            x.cell(i, 1000, 0, 2000, 0);
        }
        x.step(10, 3);
        Check.row("the 58th", new long[] {x.probe(7, 0), x.probe(7, 1)}, 800, 58);
        x.shape(8, WALL, WALL);
        Check.row("none", new long[] {x.probe(7, 0), x.probe(7, 1)}, 0, 0);
        x.step(10, 3);
        Check.row("the first one anew", new long[] {x.probe(7, 0), x.probe(7, 1)}, 800, 1);
    }

    /** What counts is how many there could be, also where one would be refused. */
    private static void threeHundredSteps() {
        ShockTube x = new ShockTube();
        for (int i = 0; i < 5; i++) {
            x.step(1, 50);
        }
        Check.same("the last fifty", x.step(1, 50), 50);
        Check.same("300", x.steps(), 300);
        Check.fails("no more", Check.ISE, () -> x.step(1, 1));
        x.shape(8, WALL, WALL);
        for (int i = 0; i < 5; i++) {
            x.step(1, 50);
        }
        x.step(1, 1);
        x.cell(3, 1, 0, 1000000000, 0);
        Check.fails("251 and 50", Check.ISE, () -> x.step(1, 50));
        Check.same("251 and 49, refused", x.step(1, 49), 0);
        Check.same("251", x.steps(), 251);
    }

    private static void noneOfManyIsDone() {
        ShockTube x = with(WALL, WALL, c(1, 0, 1000000000, 0), c(1000, 0, 2000, 0));
        isRefused("none", x, 1);
        isRefused("none with the greatest t", x, 400);
    }

    private static void shapeOfTheLeastAndTheMost() {
        ShockTube x = new ShockTube();
        x.shape(32, OPEN, OPEN);
        for (int i = 0; i < 32; i++) {
            x.cell(i, 900 + i, 5 * i, 3000 + i, i);
        }
        x.step(50, 3);
        x.shape(2, WALL, WALL);
        Check.same("2", x.many(), 2);
        Check.fails("no third", Check.IOB, () -> x.cell(2, 1000, 0, 2000, 0));
        x.step(50, 1);
        cell("at rest", x, 0, 1000, 0, 2000, 0);
        cell("at rest", x, 1, 1000, 0, 2000, 0);
        x.shape(32, WALL, WALL);
        x.step(50, 1);
        for (int i = 0; i < 32; i++) {
            cell("all as at first", x, i, 1000, 0, 2000, 0);
        }
    }

    private static void anewWithoutSteps() {
        ShockTube x = new ShockTube();
        cell("of a new object", x, 7, 1000, 0, 2000, 0);
        x.cell(7, 1000000, -10000000, 1000000000, 1000000);
        cell("told", x, 7, 1000000, -10000000, 1000000000, 1000000);
        x.cell(7, 1, 0, 0, 0);
        cell("told again", x, 7, 1, 0, 0, 0);
        x.shape(2, OPEN, OPEN);
        cell("shaped", x, 1, 1000, 0, 2000, 0);
    }

    private static void anewBehindARefusedStep() {
        ShockTube x = with(WALL, OPEN, c(1000, 30, 2000, 9), c(900, 0, 2500, 5), c(1100, -10, 2100, 0));
        x.step(100, 2);
        x.cell(0, 1000, 0, 900000, 0);
        isRefused("too fast", x, 400);
        x.cell(0, 1000, 30, 2000, 9);
        Check.same("goes on", x.step(100, 2), 2);
        for (int i = 0; i < 3; i++) {
            cell("behind it", x, i, x.tube(i, 0), x.tube(i, 1), x.tube(i, 2), x.tube(i, 3));
        }
    }

    /** What was told ahead of shape is not told any more, whether it was asked for anew or not. */
    private static void anewFromShapeOn() {
        ShockTube x = new ShockTube();
        x.cell(0, 700, 0, 3000, 0);
        x.cell(1, 800, 0, 3000, 0);
        x.step(20, 1);
        Check.same("asked for", x.anew(1, 0), x.tube(1, 0));
        x.shape(3, OPEN, WALL);
        x.cell(2, 900, 5, 3000, 77);
        cell("told behind shape", x, 2, 900, 5, 3000, 77);
        cell("not told behind it", x, 1, 1000, 0, 2000, 0);
        x.cell(1, 1100, 0, 2500, 6);
        x.shape(3, OPEN, WALL);
        cell("never asked for", x, 1, 1000, 0, 2000, 0);
    }

    private static void anewInTheLastCall() {
        ShockTube x = new ShockTube();
        for (int i = 0; i < 510; i++) {
            x.cell(i % 8, 1000 + i, 0, 3000, 0);
        }
        x.cell(5, 77, 0, 99, 3);
        Check.same("the 512th", x.anew(5, 3), 3);
    }

    private static void cameAnewFromShapeOn() {
        ShockTube x = with(OPEN, WALL, c(1000, 20, 2000, 500), c(1000, 20, 2000, 500));
        x.ignition(0, 10, 1);
        x.step(100, 1);
        Check.same("energy by burning", x.came(4), 100);
        Check.same("fuel that is gone", x.came(5), 100);
        x.shape(2, OPEN, WALL);
        came("nothing yet", x, 0, 0, 0, 0);
        x.cell(0, 1000, 20, 2000, 500);
        came("what is told did not come", x, 0, 0, 0, 0);
    }
}
