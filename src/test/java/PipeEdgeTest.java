import java.util.Arrays;

/**
 * The sentences of "The pipe" and of promises 18 to 22 that name an edge, each with a test of its
 * own: what is still so, and what is so no more. Calls that are refused stand in RefusedTest.
 */
public final class PipeEdgeTest {
    public static void main(String[] args) {
        theShortestAndTheLongest();
        noPipeAtFirst();
        theValveIsOpenAtFirst();
        aNewPipeInPlaceOfTheOneBefore();
        frictionTowardZero();
        headBetweenRoundedDown();
        flowBetweenTowardZero();
        flowAtTheReservoirTowardZero();
        flowAtTheValveRoundedDown();
        nothingFlowsBelowZero();
        openingsAtTheirEnds();
        noCavityAtMinusHundred();
        cavityBetweenFromMinusHundred();
        cavityThatBeginsWithNothing();
        cavityOfOneStays();
        cavityThatBecomesNothing();
        cavityThatBecomesLess();
        cavityWhateverItsHeadWouldBe();
        greatestHeadSoFar();
        headAtTheMost();
        flowAtTheReservoirAtTheMost();
        flowBetweenAtTheMost();
        flowAtTheValveAtTheMost();
        flowOutOfACavityAtTheMost();
        headOfACavityIsMinusHundred();
        reservoirFromTheNextTickOn();
        hundredTicks();
        Check.end("PipeEdgeTest");
    }

    private static ShockTube with(int... p) {
        ShockTube x = new ShockTube();
        x.pipe(p[0], p[1], p[2], p[3], p[4], p[5]);
        return x;
    }

    /** A pipe with another opening and another head of the reservoir, behind some ticks. */
    private static ShockTube behind(int ticks, int opening, int reservoir, int... p) {
        ShockTube x = with(p);
        x.valve(opening);
        x.reservoir(reservoir);
        Check.same("ticks of " + Arrays.toString(p), x.flow(ticks), ticks);
        return x;
    }

    /** Head, flow and cavity. */
    private static void node(String when, ShockTube x, int node, long... want) {
        Check.row(when + ": node " + node, new long[] {x.node(node, 0), x.node(node, 1), x.node(node, 2)}, want);
    }

    private static void isRefused(String why, ShockTube x) {
        long[] before = Shown.all(x);
        Check.same(why, x.flow(100), 0);
        Check.row(why + ": the pipe stays", Shown.all(x), before);
    }

    private static void theShortestAndTheLongest() {
        ShockTube x = with(1, 10, 0, 1, 300, 7);
        node("the reservoir", x, 0, 300, 7, 0);
        node("the valve", x, 1, 300, 7, 0);
        Check.fails("no third", Check.IOB, () -> x.node(2, 0));
        x.flow(1);
        node("the valve of the shortest: 37000 by 1100", x, 1, 40, 33, 0);
        ShockTube y = with(20, 10, 0, 1, 300, 7);
        node("the last one", y, 20, 300, 7, 0);
        Check.fails("no more", Check.IOB, () -> y.node(21, 0));
        y.flow(1);
        node("next to the last", y, 19, 300, 7, 0);
        node("the valve of the longest", y, 20, 40, 33, 0);
        y.flow(19);
        node("not yet at the reservoir", y, 0, 300, 7, 0);
        y.flow(1);
        Check.same("there in the 21st", y.node(0, 1) != 7 ? 1 : 0, 1);
    }

    private static void noPipeAtFirst() {
        ShockTube x = new ShockTube();
        Check.fails("no valve", Check.ISE, () -> x.valve(0));
        Check.fails("no reservoir", Check.ISE, () -> x.reservoir(0));
        Check.fails("no flow", Check.ISE, () -> x.flow(1));
        Check.fails("no node", Check.IOB, () -> x.node(0, 0));
        x.pipe(1, 1, 0, 1, 0, 0);
        node("all 0", x, 0, 0, 0, 0);
        Check.same("a tick", x.flow(1), 1);
    }

    private static void theValveIsOpenAtFirst() {
        ShockTube x = with(1, 10, 0, 1, 300, 0);
        x.flow(1);
        node("30000 by 1100", x, 1, 30, 27, 0);
        Check.same("100", x.valve(100), 100);
    }

    private static void aNewPipeInPlaceOfTheOneBefore() {
        ShockTube x = behind(2, 0, 0, 2, 10, 0, 1, 0, -100);
        node("a cavity", x, 2, -100, 0, 180);
        x.pipe(2, 10, 0, 1, 5, 0);
        for (int i = 0; i < 3; i++) {
            node("as begun", x, i, 5, 0, 0);
            Check.same("its greatest head", x.node(i, 3), 5);
        }
        x.flow(1);
        node("open by 100", x, 2, 5, 0, 0);
        Check.same("its reservoir", x.reservoir(1), 5);
        x.pipe(1, 10, 0, 1, 5, 0);
        Check.fails("one node less", Check.IOB, () -> x.node(2, 0));
    }

    /** Behind a closed valve the head is C; the reservoir's flow tells D by an impedance of 1. */
    private static void frictionTowardZero() {
        int[][] rubs = {{1, 9, 0}, {1, 10, 1}, {1, 14, 1}, {1, 15, 2}, {20, 100, 2000}, {20, 2, 0}, {20, 3, 1}, {0, 100, 0}};
        for (int[] r : rubs) {
            ShockTube x = behind(1, 0, 1000, 1, 1, r[0], 1, 1000, r[1]);
            int c = 1000 + r[1] - r[2];
            Check.same("C with " + r[1], x.node(1, 0), c < -100 ? -100 : c);
            Check.same("D with " + r[1], x.node(0, 1), r[1] - r[2]);
            x = behind(1, 0, 1000, 1, 1, r[0], 1, 1000, -r[1]);
            Check.same("C with -" + r[1], x.node(1, 0), 1000 - r[1] + r[2]);
            Check.same("D with -" + r[1], x.node(0, 1), -r[1] + r[2]);
        }
    }

    private static void headBetweenRoundedDown() {
        ShockTube x = behind(2, 0, 10, 2, 1, 0, 1, 9, 0);
        node("C 11 and D 9", x, 1, 10, 1, 0);
        x = behind(2, 0, 0, 2, 2, 0, 1, 5, 0);
        node("C -4 and D 5", x, 1, 0, -2, 0);
        x = behind(2, 100, 0, 2, 2, 0, 1, 5, 0);
        node("C -4 and D 1: -3 by 2 is -2", x, 1, -2, -1, 0);
        x = behind(2, 0, 0, 2, 2, 0, 1, 5, -3);
        node("C -10 and D -1: -11 by 2 is -6", x, 1, -6, -2, 0);
    }

    private static void flowBetweenTowardZero() {
        ShockTube x = behind(2, 0, 11, 2, 3, 0, 1, 9, 0);
        node("C 11 and D 9: 2 by 6", x, 1, 10, 0, 0);
        x = behind(2, 0, 7, 2, 3, 0, 1, 9, 0);
        node("C 7 and D 9: -2 by 6", x, 1, 8, 0, 0);
        x = behind(2, 0, 4, 2, 3, 0, 1, 9, 0);
        node("C 1 and D 9: -8 by 6", x, 1, 5, -1, 0);
        x = behind(2, 0, 14, 2, 3, 0, 1, 9, 0);
        node("C 17 and D 9: 8 by 6", x, 1, 13, 1, 0);
    }

    private static void flowAtTheReservoirTowardZero() {
        int[][] flows = {{100, 0}, {102, 0}, {103, 1}, {105, 1}, {106, 2}, {98, 0}, {97, -1}, {95, -1}, {94, -2}};
        for (int[] f : flows) {
            ShockTube x = behind(1, 0, f[0], 1, 3, 0, 1, 100, 0);
            node("with " + f[0], x, 0, f[0], f[1], 0);
        }
    }

    /** 100 times C by 200. */
    private static void flowAtTheValveRoundedDown() {
        int[][] flows = {{0, 0}, {1, 0}, {2, 1}, {3, 1}, {4, 2}, {2000, 1000}};
        for (int[] f : flows) {
            ShockTube x = behind(1, 100, f[0], 1, 1, 0, 1, f[0], 0);
            node("C " + f[0], x, 1, f[0] - f[1], f[1], 0);
        }
    }

    private static void nothingFlowsBelowZero() {
        ShockTube x = behind(1, 100, 3, 1, 1, 0, 1, 3, -4);
        node("C -1", x, 1, -1, 0, 0);
        x = behind(1, 100, 4, 1, 1, 0, 1, 4, -4);
        node("C 0", x, 1, 0, 0, 0);
        x = behind(1, 100, 6, 1, 1, 0, 1, 6, -4);
        node("C 2", x, 1, 1, 1, 0);
        x = behind(1, 100, 3, 1, 1, 0, 1, 3, -100);
        node("C -97: -9700 by 200 is no flow", x, 1, -97, 0, 0);
    }

    private static void openingsAtTheirEnds() {
        int[][] openings = {{0, 0}, {1, 9}, {99, 497}, {100, 500}};
        for (int[] o : openings) {
            ShockTube x = behind(1, o[0], 1000, 1, 1, 0, 1, 1000, 0);
            node("open by " + o[0], x, 1, 1000 - o[1], o[1], 0);
            Check.same("the one before", x.valve(50), o[0]);
        }
    }

    private static void noCavityAtMinusHundred() {
        node("-99", behind(1, 100, 1, 1, 2, 0, 1, 1, -50), 1, -99, 0, 0);
        node("-100", behind(1, 100, 0, 1, 2, 0, 1, 0, -50), 1, -100, 0, 0);
        node("-102", behind(1, 100, 0, 1, 2, 0, 1, 0, -51), 1, -100, 0, 1);
        node("-104", behind(1, 100, 0, 1, 2, 0, 1, 0, -52), 1, -100, 0, 2);
        node("-100, closed", behind(1, 0, 0, 1, 1, 0, 1, 0, -100), 1, -100, 0, 0);
    }

    /** The valve has a cavity behind the first tick; then between C is -116 and D -100. */
    private static void cavityBetweenFromMinusHundred() {
        ShockTube x = behind(2, 50, 28, 2, 9, 0, 2, 12, -18);
        node("-108: 16 by 9 is 1", x, 1, -100, 0, 1);
        node("at the valve too", x, 2, -100, 0, 10);
        x = behind(2, 100, 0, 2, 2, 0, 1, 0, -50);
        node("C -100 and D -100: none", x, 1, -100, 0, 0);
        x = behind(2, 100, 0, 2, 2, 0, 1, 0, -51);
        node("C -102 and D -100: one", x, 1, -100, 0, 1);
    }

    /** C is -101: -1 by 2 is 0, so that it would begin with 0, and the head is as told without. */
    private static void cavityThatBeginsWithNothing() {
        ShockTube x = behind(1, 100, 1, 1, 2, 0, 1, 1, -51);
        node("-101", x, 1, -101, 0, 0);
        x = behind(1, 100, 9, 1, 10, 0, 1, 1, -11);
        node("-109", x, 1, -109, 0, 0);
        x = behind(1, 100, 9, 1, 10, 0, 1, 0, -11);
        node("-110", x, 1, -100, 0, 1);
    }

    /** 89 and 90 open it; then C is 1680, and 178 come: of 179 one is left. */
    private static void cavityOfOneStays() {
        ShockTube x = behind(1, 100, 0, 1, 10, 0, 1, 5, -100);
        node("89", x, 1, -100, 0, 89);
        x.reservoir(790);
        x.flow(1);
        node("179", x, 1, -100, 0, 179);
        x.flow(1);
        node("1", x, 1, -100, 0, 1);
        x.flow(1);
        node("none: C is 1680", x, 1, 160, 152, 0);
    }

    /** 89 twice, and 178 come: nothing is left, so that the node is as told without. */
    private static void cavityThatBecomesNothing() {
        ShockTube x = behind(1, 100, 5, 1, 10, 0, 1, 5, -100);
        x.reservoir(790);
        x.flow(1);
        node("178", x, 1, -100, 0, 178);
        x.flow(1);
        node("0", x, 1, 160, 152, 0);
    }

    private static void cavityThatBecomesLess() {
        ShockTube x = behind(1, 100, 5, 1, 10, 0, 1, 5, -100);
        x.reservoir(800);
        x.flow(1);
        node("178", x, 1, -100, 0, 178);
        x.flow(1);
        node("180 come: C is 1700", x, 1, 160, 154, 0);
        x = behind(2, 100, 0, 1, 10, 0, 1, 0, -20);
        x.valve(0);
        x.flow(1);
        node("closed: the head is C", x, 1, 100, 0, 0);
    }

    /** Without its cavity the head would be -97 between, and -98 at the valve. */
    private static void cavityWhateverItsHeadWouldBe() {
        ShockTube x = behind(3, 0, 6, 3, 10, 0, 4, 57, -11);
        node("1 between", x, 2, -100, -4, 1);
        node("no cavity at the valve", x, 3, -53, 0, 0);
        x.flow(1);
        node("C -140 and D -53: -4 go and -4 come", x, 2, -100, -4, 1);
        x = behind(3, 50, 24, 2, 7, 5, 4, 82, -18);
        node("1 at the valve", x, 2, -100, 0, 1);
        x.flow(1);
        node("C -98: 2 by 7 come", x, 2, -100, 0, 1);
    }

    private static void greatestHeadSoFar() {
        ShockTube x = with(1, 10, 0, 1, 300, 50);
        Check.same("as begun", x.node(0, 3), 300);
        x.valve(0);
        x.reservoir(299);
        x.flow(1);
        Check.same("less does not count", x.node(0, 3), 300);
        Check.same("behind the closed valve", x.node(1, 3), 800);
        x.reservoir(301);
        Check.same("not ahead of a tick", x.node(0, 3), 300);
        x.flow(1);
        Check.same("greater by 1", x.node(0, 3), 301);
        x = with(1, 1, 20, 1, 0, -100);
        x.flow(5);
        Check.same("a refused tick does not count", x.node(1, 3), 950);
    }

    /** C is 2000901 or 2000902, D -900 each time. */
    private static void headAtTheMost() {
        ShockTube x = behind(7, 13, 168, 3, 12, 20, 3, 1858, -48);
        Check.same("1000000", x.flow(1), 1);
        node("1000000", x, 1, 1000000, 83408, 0);
        Check.same("the greatest", x.node(1, 3), 1000000);
        x = behind(7, 13, 169, 3, 12, 20, 3, 1858, -48);
        isRefused("1000001", x);
    }

    private static void flowAtTheReservoirAtTheMost() {
        ShockTube x = behind(2, 0, 1099, 2, 1, 10, 1, 906, 15);
        x.reservoir(1100);
        isRefused("100001", x);
        x.reservoir(1099);
        Check.same("100000", x.flow(1), 1);
        node("100000", x, 0, 1099, 100000, 0);
        x = behind(2, 0, 1190, 1, 1, 20, 1, 0, 100);
        x.reservoir(1299);
        isRefused("-100001", x);
        x.reservoir(1300);
        Check.same("-100000", x.flow(1), 1);
        node("-100000", x, 0, 1300, -100000, 0);
    }

    private static void flowBetweenAtTheMost() {
        ShockTube x = behind(1, 0, 511, 2, 1, 10, 1, 1473, 73);
        Check.same("100000", x.flow(1), 1);
        node("C 201014 and D 1014", x, 1, 101014, 100000, 0);
        isRefused("C 318583 and D 118580", behind(1, 100, 308, 2, 1, 20, 1, 1556, 12));
        x = behind(1, 100, 840, 2, 1, 20, 1, 917, -61);
        Check.same("-100000", x.flow(1), 1);
        node("C -72001 and D 128000", x, 1, 27999, -100000, 0);
        isRefused("C 1702 and D 201705", behind(1, 92, 1440, 2, 1, 14, 1, 1996, -64));
    }

    private static void flowAtTheValveAtTheMost() {
        ShockTube x = behind(1, 100, 861, 1, 2, 20, 1, 1555, 99);
        Check.same("100000", x.flow(1), 1);
        node("C 300001", x, 1, 100001, 100000, 0);
        isRefused("C 200002", behind(1, 100, 7, 1, 1, 5, 1, 1661, 95));
    }

    private static void flowOutOfACavityAtTheMost() {
        ShockTube x = behind(2, 83, 1678, 2, 3, 20, 3, 1663, 61);
        Check.same("-100000", x.flow(1), 1);
        node("D 299902", x, 1, -100, -100000, 205138);
        isRefused("D 99901", behind(1, 9, 1895, 3, 1, 20, 3, 920, -62));
        x = behind(2, 42, 1006, 3, 4, 20, 2, 1426, -62);
        Check.same("100000", x.flow(1), 1);
        node("D -400100", x, 1, -100, 100000, 66924);
        isRefused("D -300104", behind(2, 52, 1573, 3, 3, 8, 1, 1845, -74));
    }

    /** Without its cavity the head would be -1001476; the head that it has is what is looked at. */
    private static void headOfACavityIsMinusHundred() {
        ShockTube x = behind(6, 73, 94, 2, 11, 20, 2, 1670, 34);
        Check.same("not refused", x.flow(1), 1);
        node("1001376 by 11", x, 2, -100, 0, 91034);
    }

    private static void reservoirFromTheNextTickOn() {
        ShockTube x = with(2, 10, 0, 1, 500, 0);
        Check.same("the one before", x.reservoir(0), 500);
        node("not yet", x, 0, 500, 0, 0);
        Check.same("once more", x.reservoir(2000), 0);
        x.flow(1);
        node("the last one told", x, 0, 2000, 150, 0);
        node("not yet its neighbour", x, 1, 500, 0, 0);
        Check.same("it stays", x.reservoir(0), 2000);
    }

    private static void hundredTicks() {
        ShockTube x = with(3, 10, 0, 1, 500, 0);
        Check.same("the least", x.flow(1), 1);
        Check.same("the most", x.flow(100), 100);
        ShockTube y = with(3, 10, 0, 1, 500, 0);
        for (int i = 0; i < 101; i++) {
            y.flow(1);
        }
        Check.row("one after the other", Shown.all(x), Shown.all(y));
        Check.same("until one is refused", with(1, 1, 20, 1, 0, -100).flow(100), 1);
    }
}
