import java.util.Arrays;

/**
 * The sentences of "Fronts" and of promises 14 to 17 that name an edge, each with a test of its
 * own: what is still so, and what is so no more. Calls that are refused stand in RefusedTest.
 */
public final class FrontEdgeTest {
    private static final int SHOCK = ShockTube.SHOCK;
    private static final int CONTACT = ShockTube.CONTACT;
    private static final int FLAME = ShockTube.FLAME;

    public static void main(String[] args) {
        theEmptyRow();
        theFullRow();
        behindThoseAtItsPlace();
        behindThePlaceBehindATick();
        beyondTheEnds();
        beyondTheEndsByFar();
        threeHalves();
        restingAtAnEnd();
        greaterByOne();
        theSamePlace();
        theSameWhileItWasGreater();
        shocksOfUnlikeSigns();
        shocksOfLikeSigns();
        shocksBothWithoutSpeed();
        contactBetweenShocks();
        fewerThanEight();
        sumOfTheStrengths();
        meanTowardZero();
        nineTenths();
        tenthTowardZero();
        contactHeld();
        flameHeld();
        theStrongerOne();
        onBehindAMerger();
        onBehindThoseThatGoThrough();
        onBehindAContactBetween();
        onToTheLastOfEight();
        leftNeighbourOfAMerger();
        hundredTicks();
        roomAgain();
        Check.end("FrontEdgeTest");
    }

    private static int[] f(int kind, int place, int speed, int strength) {
        return new int[] {kind, place, speed, strength};
    }

    private static ShockTube with(int[]... fronts) {
        ShockTube x = new ShockTube();
        for (int[] f : fronts) {
            x.front(f[0], f[1], f[2], f[3]);
        }
        return x;
    }

    private static void row(String when, ShockTube x, int[]... want) {
        int fronts = x.fronts();
        int[][] got = new int[fronts][];
        for (int i = 0; i < fronts; i++) {
            got[i] = f(x.ofFront(i, 0), x.ofFront(i, 1), x.ofFront(i, 2), x.ofFront(i, 3));
        }
        Check.same(when, Arrays.deepToString(got), Arrays.deepToString(want));
        Check.fails(when + ": and no more", Check.IOB, () -> x.ofFront(fronts, 0));
    }

    /** What one tick makes of some fronts. */
    private static void tick(String when, int[][] ahead, int[]... want) {
        ShockTube x = with(ahead);
        Check.same(when + ": how many", x.tick(1), want.length);
        row(when, x, want);
    }

    private static int[][] of(int[]... fronts) {
        return fronts;
    }

    private static void theEmptyRow() {
        ShockTube x = new ShockTube();
        row("none", x);
        Check.same("a tick of none", x.tick(1), 0);
        Check.same("100 of none", x.tick(100), 0);
        Check.same("the first one", x.front(FLAME, 100000, 0, 1), 0);
        row("one", x, f(FLAME, 100000, 0, 1));
        Check.same("a tick of one", x.tick(1), 1);
    }

    private static void theFullRow() {
        ShockTube x = new ShockTube();
        for (int i = 0; i < 8; i++) {
            Check.same("behind the one before", x.front(CONTACT, 10 * i, 0, 1 + i), i);
        }
        Check.fails("a ninth", Check.ISE, () -> x.front(CONTACT, 5, 0, 1));
        Check.same("all stay", x.tick(100), 8);
        Check.same("the eighth", x.ofFront(7, 3), 8);
        Check.fails("still no ninth", Check.ISE, () -> x.front(CONTACT, 5, 0, 1));
    }

    private static void behindThoseAtItsPlace() {
        ShockTube x = with(f(FLAME, 5, 0, 1), f(FLAME, 5, 0, 2), f(FLAME, 6, 0, 3));
        Check.same("one less", x.front(FLAME, 4, 0, 4), 0);
        Check.same("the same", x.front(FLAME, 5, 0, 5), 3);
        Check.same("one more", x.front(FLAME, 6, 0, 6), 5);
        Check.same("at 0", x.front(FLAME, 0, 0, 7), 0);
        Check.same("at 0 again", x.front(FLAME, 0, 0, 8), 1);
        row("in a row", x, f(FLAME, 0, 0, 7), f(FLAME, 0, 0, 8), f(FLAME, 4, 0, 4), f(FLAME, 5, 0, 1),
                f(FLAME, 5, 0, 2), f(FLAME, 5, 0, 5), f(FLAME, 6, 0, 3), f(FLAME, 6, 0, 6));
    }

    /** Where it was ahead of the last tick does not count. */
    private static void behindThePlaceBehindATick() {
        ShockTube x = with(f(FLAME, 100, 10, 1), f(FLAME, 300, -10, 2));
        x.tick(1);
        Check.same("ahead of 110", x.front(FLAME, 109, 0, 3), 0);
        Check.same("behind 110", x.front(FLAME, 110, 0, 4), 2);
        Check.same("ahead of 290", x.front(FLAME, 289, 0, 5), 3);
        Check.same("behind 290", x.front(FLAME, 290, 0, 6), 5);
    }

    private static void beyondTheEnds() {
        for (int kind = SHOCK; kind <= FLAME; kind++) {
            tick("to 0", of(f(kind, 7, -7, 4)), f(kind, 0, -7, 4));
            tick("to 100000", of(f(kind, 99993, 7, 4)), f(kind, 100000, 7, 4));
        }
        tick("a SHOCK to -1", of(f(SHOCK, 7, -8, 4)), f(SHOCK, 0, 8, 6));
        tick("a SHOCK to 100001", of(f(SHOCK, 99993, 8, 4)), f(SHOCK, 100000, -8, 6));
        tick("a CONTACT to -1", of(f(CONTACT, 7, -8, 4)));
        tick("a CONTACT to 100001", of(f(CONTACT, 99993, 8, 4)));
        tick("a FLAME to -1", of(f(FLAME, 7, -8, 4)));
        tick("a FLAME to 100001", of(f(FLAME, 99993, 8, 4)));
    }

    private static void beyondTheEndsByFar() {
        tick("from 0 by -900", of(f(SHOCK, 0, -900, 4)), f(SHOCK, 0, 900, 6));
        tick("from 100000 by 900", of(f(SHOCK, 100000, 900, 4)), f(SHOCK, 100000, -900, 6));
        tick("all others gone, the SHOCKs stay",
                of(f(FLAME, 0, -1, 4), f(SHOCK, 0, -1, 4), f(CONTACT, 0, -1, 4), f(CONTACT, 50, 0, 2),
                        f(CONTACT, 100000, 1, 4), f(FLAME, 100000, 1, 4)),
                f(SHOCK, 0, 1, 6), f(CONTACT, 50, 0, 2));
    }

    private static void threeHalves() {
        int[][] strengths = {{1, 1}, {2, 3}, {3, 4}, {599, 898}, {600, 900}, {601, 900}, {900, 900}};
        for (int[] s : strengths) {
            tick("3 halves of " + s[0], of(f(SHOCK, 0, -1, s[0])), f(SHOCK, 0, 1, s[1]));
            tick("3 halves of " + s[0], of(f(SHOCK, 100000, 1, s[0])), f(SHOCK, 100000, -1, s[1]));
        }
    }

    private static void restingAtAnEnd() {
        tick("at 0", of(f(SHOCK, 0, 0, 4), f(FLAME, 100000, 0, 5)), f(SHOCK, 0, 0, 4), f(FLAME, 100000, 0, 5));
    }

    private static void greaterByOne() {
        tick("greater by 1", of(f(FLAME, 100, 11, 5), f(FLAME, 110, 0, 4)), f(FLAME, 110, 11, 5));
        tick("greater by 2", of(f(FLAME, 100, 12, 5), f(FLAME, 110, 0, 4)), f(FLAME, 111, 12, 5));
        tick("less by 1", of(f(FLAME, 100, 9, 5), f(FLAME, 110, 0, 4)), f(FLAME, 109, 9, 5), f(FLAME, 110, 0, 4));
    }

    private static void theSamePlace() {
        tick("less by 1 ahead", of(f(FLAME, 100, 1, 5), f(FLAME, 101, 0, 4)), f(FLAME, 101, 1, 5));
        tick("not less ahead", of(f(FLAME, 100, 1, 5), f(FLAME, 100, 1, 4)), f(FLAME, 101, 1, 5), f(FLAME, 101, 1, 4));
        tick("at rest", of(f(FLAME, 100, 0, 5), f(FLAME, 100, 0, 4)), f(FLAME, 100, 0, 5), f(FLAME, 100, 0, 4));
        tick("turned, the same as ahead", of(f(SHOCK, 0, -5, 6), f(SHOCK, 0, -7, 4)), f(SHOCK, 0, 5, 9), f(SHOCK, 0, 7, 6));
        tick("turned, less ahead", of(f(SHOCK, 0, -5, 6), f(SHOCK, 1, -7, 6)), f(SHOCK, 0, 6, 18));
    }

    /** The contacts meet at 95, to the right of a flame at 98; in the next tick both are at 98. */
    private static void theSameWhileItWasGreater() {
        ShockTube x = with(f(FLAME, 98, 0, 3), f(CONTACT, 99, 3, 9), f(CONTACT, 110, -22, 5));
        x.tick(1);
        row("out of order", x, f(FLAME, 98, 0, 3), f(CONTACT, 95, 3, 9));
        Check.same("no meeting", x.tick(1), 2);
        row("at one place", x, f(FLAME, 98, 0, 3), f(CONTACT, 98, 3, 9));
        x.tick(1);
        row("in order", x, f(FLAME, 98, 0, 3), f(CONTACT, 101, 3, 9));
    }

    private static void shocksOfUnlikeSigns() {
        tick("1 and -1", of(f(SHOCK, 100, 1, 5), f(SHOCK, 101, -1, 5)), f(SHOCK, 100, -1, 5), f(SHOCK, 100, 1, 5));
        tick("1 and 0", of(f(SHOCK, 100, 1, 5), f(SHOCK, 101, 0, 5)), f(SHOCK, 101, 0, 5), f(SHOCK, 101, 1, 5));
        tick("0 and -1", of(f(SHOCK, 100, 0, 5), f(SHOCK, 101, -1, 5)), f(SHOCK, 100, -1, 5), f(SHOCK, 100, 0, 5));
        tick("900 and -900", of(f(SHOCK, 1000, 900, 900), f(SHOCK, 1001, -900, 900)), f(SHOCK, 1000, -900, 900),
                f(SHOCK, 1000, 900, 900));
    }

    /** One of them turns at an end, so that both have a speed of 1, or of -1. */
    private static void shocksOfLikeSigns() {
        tick("1 and 1", of(f(SHOCK, 0, 1, 5), f(SHOCK, 0, -1, 4)), f(SHOCK, 0, 1, 11));
        tick("-1 and -1", of(f(SHOCK, 100000, 1, 4), f(SHOCK, 100000, -1, 5)), f(SHOCK, 99999, -1, 11));
        tick("2 and 1", of(f(SHOCK, 100, 2, 5), f(SHOCK, 101, 1, 5)), f(SHOCK, 102, 1, 10));
        tick("-1 and -2", of(f(SHOCK, 100, -1, 5), f(SHOCK, 101, -2, 5)), f(SHOCK, 99, -1, 10));
    }

    /** "One without a speed" is read as: at least one. The first SHOCK leaves both out of order, at rest. */
    private static void shocksBothWithoutSpeed() {
        ShockTube x = with(f(SHOCK, 100, 20, 7), f(SHOCK, 105, 0, 7), f(SHOCK, 106, 0, 7));
        x.tick(1);
        row("out of order", x, f(SHOCK, 112, 0, 7), f(SHOCK, 109, 0, 7), f(SHOCK, 109, 20, 7));
        x.tick(1);
        row("at rest through one another", x, f(SHOCK, 110, 0, 7), f(SHOCK, 110, 0, 7), f(SHOCK, 129, 20, 7));
    }

    private static void contactBetweenShocks() {
        int[][] speeds = {{10, -1, 0}, {10, -10, 0}, {1, -10, 0}, {20, -10, 1}, {30, -11, 1}, {31, -11, 2},
            {10, -20, -1}, {11, -30, -1}, {11, -31, -2}, {900, -1, 89}, {1, -900, -89}};
        for (int[] s : speeds) {
            ShockTube x = with(f(SHOCK, 5000, s[0], 6), f(SHOCK, 5001, s[1], 5));
            Check.same("a contact comes", x.tick(1), 3);
            Check.same("its kind", x.ofFront(1, 0), CONTACT);
            Check.same("its speed of " + s[0] + " and " + s[1], x.ofFront(1, 2), s[2]);
            Check.same("its strength", x.ofFront(1, 3), 1);
        }
        ShockTube x = with(f(SHOCK, 5000, 900, 1), f(SHOCK, 5001, -900, 900));
        x.tick(1);
        row("the greatest difference", x, f(SHOCK, 5000, -900, 900), f(CONTACT, 5000, 0, 899), f(SHOCK, 5000, 900, 1));
        x = with(f(SHOCK, 5000, 5, 77), f(SHOCK, 5001, -5, 77));
        Check.same("none of the like", x.tick(1), 2);
    }

    private static void fewerThanEight() {
        int[] a = f(SHOCK, 100, 5, 9);
        int[] b = f(SHOCK, 101, -5, 7);
        int[] c = f(SHOCK, 200, 5, 9);
        int[] d = f(SHOCK, 201, -5, 7);
        int[] e = f(FLAME, 300, 0, 1);
        int[] g = f(FLAME, 400, 0, 1);
        int[] h = f(FLAME, 500, 0, 1);
        int[] i = f(FLAME, 600, 0, 1);
        Check.same("two of six", with(a, b, c, d, e, g).tick(1), 8);
        ShockTube x = with(a, b, c, d, e, g, h);
        Check.same("one of seven", x.tick(1), 8);
        Check.same("the first pair has it", x.ofFront(1, 0), CONTACT);
        Check.same("the second has none", x.ofFront(4, 0), SHOCK);
        Check.same("none of eight", with(a, b, c, d, e, g, h, i).tick(1), 8);
        x = with(f(CONTACT, 50, 5, 1), f(FLAME, 51, 0, 1), c, d, e, g, h, i);
        Check.same("one is gone ahead of it", x.tick(1), 8);
        Check.same("so there is room", x.ofFront(2, 0), CONTACT);
        x = with(f(FLAME, 0, -1, 1), a, b, e, g, h, i, f(FLAME, 700, 0, 1));
        Check.same("one is beyond the end", x.tick(1), 8);
        Check.same("so there is room again", x.ofFront(1, 0), CONTACT);
        x = with(a, b, e, g, h, i, f(CONTACT, 800, 5, 1), f(FLAME, 801, 0, 1));
        Check.same("one is gone behind it", x.tick(1), 7);
        Check.same("so there was none", x.ofFront(1, 0), SHOCK);
    }

    private static void sumOfTheStrengths() {
        int[][] sums = {{1, 1, 2}, {1, 898, 899}, {450, 450, 900}, {451, 450, 900}, {900, 1, 900}, {900, 900, 900}};
        for (int[] s : sums) {
            ShockTube x = with(f(SHOCK, 500, 8, s[0]), f(SHOCK, 501, 4, s[1]));
            Check.same("one is left", x.tick(1), 1);
            Check.same("of " + s[0] + " and " + s[1], x.ofFront(0, 3), s[2]);
        }
    }

    /** Speeds and strengths; the faster one comes from behind, and the mean is toward 0. */
    private static void meanTowardZero() {
        int[][] means = {{3, 2, 1, 1, 2}, {-2, -3, 1, 1, -2}, {3, 2, 3, 1, 2}, {-2, -3, 1, 3, -2},
            {900, 1, 900, 1, 899}, {900, 899, 900, 900, 899}, {-1, -900, 1, 900, -899}, {4, 2, 450, 450, 3}};
        for (int[] m : means) {
            ShockTube x = with(f(SHOCK, 5000, m[0], m[2]), f(SHOCK, 5000, m[1], m[3]));
            Check.same("one is left of " + Arrays.toString(m), x.tick(1), 1);
            Check.same("mean of " + Arrays.toString(m), x.ofFront(0, 2), m[4]);
        }
    }

    private static void nineTenths() {
        int[][] strengths = {{1, 1}, {2, 1}, {3, 2}, {9, 8}, {10, 9}, {11, 9}, {900, 810}};
        for (int[] s : strengths) {
            tick("9 tenths of " + s[0], of(f(SHOCK, 100, 5, s[0]), f(CONTACT, 101, 0, 3)),
                    f(CONTACT, 103, 0, 3), f(SHOCK, 103, 5, s[1]));
            tick("9 tenths of " + s[0], of(f(CONTACT, 100, 0, 3), f(SHOCK, 101, -5, s[0])),
                    f(SHOCK, 98, -5, s[1]), f(CONTACT, 98, 0, 3));
        }
    }

    private static void tenthTowardZero() {
        int[][] speeds = {{9, 0}, {10, 1}, {19, 1}, {20, 2}, {899, 89}, {900, 90}};
        for (int[] s : speeds) {
            ShockTube x = with(f(SHOCK, 5000, s[0], 10), f(CONTACT, 5001, 0, 3));
            x.tick(1);
            Check.same("a tenth of " + s[0], x.ofFront(0, 2), s[1]);
            x = with(f(CONTACT, 5000, 0, 3), f(SHOCK, 5001, -s[0], 10));
            x.tick(1);
            Check.same("a tenth of -" + s[0], x.ofFront(1, 2), -s[1]);
        }
    }

    private static void contactHeld() {
        int[][] speeds = {{809, 899}, {810, 900}, {811, 900}, {899, 900}};
        for (int[] s : speeds) {
            ShockTube x = with(f(SHOCK, 5000, 900, 10), f(CONTACT, 5001, s[0], 3));
            x.tick(1);
            Check.same(s[0] + " and 90", x.ofFront(0, 2), s[1]);
            x = with(f(CONTACT, 5000, -s[0], 3), f(SHOCK, 5001, -900, 10));
            x.tick(1);
            Check.same("-" + s[0] + " and -90", x.ofFront(1, 2), -s[1]);
        }
    }

    private static void flameHeld() {
        int[][] speeds = {{0, 0}, {1, 2}, {449, 898}, {450, 900}, {451, 900}, {899, 900}};
        for (int[] s : speeds) {
            ShockTube x = with(f(SHOCK, 5000, 900, 1), f(FLAME, 5001, s[0], 3));
            x.tick(1);
            Check.same("twice " + s[0], x.ofFront(0, 2), s[1]);
            Check.same("the strength of the SHOCK stays", x.ofFront(1, 3), 1);
            x = with(f(FLAME, 5000, -s[0], 3), f(SHOCK, 5001, -900, 900));
            x.tick(1);
            Check.same("twice -" + s[0], x.ofFront(1, 2), -s[1]);
            Check.same("it stays at 900", x.ofFront(0, 3), 900);
        }
    }

    private static void theStrongerOne() {
        for (int kind = CONTACT; kind <= FLAME; kind++) {
            tick("less by 1", of(f(kind, 100, 5, 6), f(kind, 101, 0, 7)), f(kind, 103, 0, 7));
            tick("the same", of(f(kind, 100, 5, 7), f(kind, 101, 0, 7)), f(kind, 103, 5, 7));
            tick("more by 1", of(f(kind, 100, 5, 8), f(kind, 101, 0, 7)), f(kind, 103, 5, 8));
        }
        tick("the FLAME is gone, however strong", of(f(CONTACT, 100, 5, 1), f(FLAME, 101, 0, 900)), f(CONTACT, 103, 5, 1));
        tick("to the left too", of(f(FLAME, 100, 5, 900), f(CONTACT, 101, 0, 1)), f(CONTACT, 103, 0, 1));
    }

    /** Both SHOCKs are at 143 as one; the flame at 137, 143 or 144. */
    private static void onBehindAMerger() {
        int[] a = f(SHOCK, 100, 50, 30);
        int[] b = f(SHOCK, 120, 17, 10);
        tick("meets the next one", of(a, b, f(FLAME, 142, -5, 3)), f(FLAME, 140, -10, 3), f(SHOCK, 140, 41, 40));
        tick("at its place, less ahead", of(a, b, f(FLAME, 144, -1, 3)), f(FLAME, 143, -2, 3), f(SHOCK, 143, 41, 40));
        tick("at its place, as ahead", of(a, b, f(FLAME, 143, 0, 3)), f(SHOCK, 143, 41, 40), f(FLAME, 143, 0, 3));
        tick("at its place, greater than ahead", of(a, b, f(FLAME, 142, 1, 3)), f(SHOCK, 143, 41, 40), f(FLAME, 143, 1, 3));
        tick("less", of(a, b, f(FLAME, 144, 0, 3)), f(SHOCK, 143, 41, 40), f(FLAME, 144, 0, 3));
    }

    private static void onBehindThoseThatGoThrough() {
        int[] a = f(SHOCK, 100, 50, 30);
        int[] b = f(SHOCK, 140, -35, 30);
        tick("the right one meets the next", of(a, b, f(FLAME, 141, -15, 3)),
                f(SHOCK, 127, -35, 30), f(FLAME, 126, -30, 3), f(SHOCK, 126, 50, 30));
        tick("a contact", of(a, f(CONTACT, 130, -10, 4), f(FLAME, 131, -5, 3)),
                f(CONTACT, 135, -5, 4), f(FLAME, 130, -10, 3), f(SHOCK, 130, 50, 27));
        tick("and one more", of(a, f(CONTACT, 130, -10, 4), f(FLAME, 131, -5, 3), f(CONTACT, 132, -6, 4)),
                f(CONTACT, 135, -5, 4), f(FLAME, 130, -10, 3), f(CONTACT, 128, -1, 4), f(SHOCK, 128, 50, 24));
    }

    /** Three are at 127; the right one of them goes on. */
    private static void onBehindAContactBetween() {
        int[] a = f(SHOCK, 100, 50, 30);
        int[] b = f(SHOCK, 140, -35, 10);
        tick("the right one of three", of(a, b, f(CONTACT, 141, -16, 3)), f(SHOCK, 127, -35, 10),
                f(CONTACT, 127, 1, 20), f(CONTACT, 126, -11, 3), f(SHOCK, 126, 50, 27));
        tick("and none to meet", of(a, b, f(CONTACT, 142, -14, 3)), f(SHOCK, 127, -35, 10), f(CONTACT, 127, 1, 20),
                f(SHOCK, 127, 50, 30), f(CONTACT, 128, -14, 3));
    }

    /** They are at 700, 610, 520 .. 70: met one behind the other, at the halves. */
    private static void onToTheLastOfEight() {
        ShockTube x = new ShockTube();
        for (int i = 0; i < 8; i++) {
            x.front(CONTACT, 10 * i, 700 - 100 * i, 50);
        }
        Check.same("one is left of eight", x.tick(1), 1);
        row("the left one", x, f(CONTACT, 159, 700, 50));
    }

    /** It is at 146, and what was left of the meeting at 143. */
    private static void leftNeighbourOfAMerger() {
        tick("it is not looked at again", of(f(CONTACT, 100, 46, 5), f(SHOCK, 100, 50, 30), f(SHOCK, 120, 17, 10),
                f(FLAME, 200, 0, 1)), f(CONTACT, 146, 46, 5), f(SHOCK, 143, 41, 40), f(FLAME, 200, 0, 1));
        tick("the pair behind it is", of(f(CONTACT, 100, 46, 5), f(SHOCK, 100, 50, 30), f(SHOCK, 120, 17, 10),
                f(FLAME, 200, 9, 2), f(FLAME, 201, 0, 1)), f(CONTACT, 146, 46, 5), f(SHOCK, 143, 41, 40),
                f(FLAME, 205, 9, 2));
    }

    private static void hundredTicks() {
        ShockTube x = with(f(SHOCK, 100000, -900, 3), f(FLAME, 0, 1, 3));
        x.tick(99);
        row("99", x, f(FLAME, 99, 1, 3), f(SHOCK, 10900, -900, 3));
        x.tick(12);
        row("12 more: they were at 111 and at 100", x, f(SHOCK, 105, -900, 3), f(FLAME, 105, 2, 3));
        x.tick(1);
        row("turned", x, f(SHOCK, 0, 900, 4), f(FLAME, 107, 2, 3));
    }

    private static void roomAgain() {
        ShockTube x = new ShockTube();
        for (int i = 0; i < 7; i++) {
            x.front(CONTACT, 10 * i, 0, 1);
        }
        x.front(FLAME, 100000, 1, 1);
        Check.fails("full", Check.ISE, () -> x.front(SHOCK, 50, 0, 1));
        Check.same("one is gone", x.tick(1), 7);
        Check.same("room for it", x.front(SHOCK, 50, 0, 1), 6);
        Check.fails("full again", Check.ISE, () -> x.front(SHOCK, 50, 0, 1));
    }
}
