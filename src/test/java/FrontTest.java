/** Promises 14 to 17, with numbers found by hand. */
public final class FrontTest {
    private static final int SHOCK = ShockTube.SHOCK;
    private static final int CONTACT = ShockTube.CONTACT;
    private static final int FLAME = ShockTube.FLAME;

    public static void main(String[] args) {
        front();
        frontWrong();
        frontInARowOutOfOrder();
        tickMoves();
        tickEnds();
        whoMeets();
        aheadOfTheTick();
        shocksGoThrough();
        shocksMerge();
        shockAndContact();
        shockAndFlame();
        contactAndFlame();
        alike();
        goesOnBehindAMeeting();
        eightFronts();
        tickWrong();
        ofFront();
        Check.end("FrontTest");
    }

    private static ShockTube with(int[]... fronts) {
        ShockTube x = new ShockTube();
        for (int[] f : fronts) {
            x.front(f[0], f[1], f[2], f[3]);
        }
        return x;
    }

    private static int[] f(int kind, int place, int speed, int strength) {
        return new int[] {kind, place, speed, strength};
    }

    private static void row(String when, ShockTube x, int[]... want) {
        Check.same(when + ": how many", x.fronts(), want.length);
        for (int i = 0; i < Math.min(want.length, x.fronts()); i++) {
            long[] got = {x.ofFront(i, 0), x.ofFront(i, 1), x.ofFront(i, 2), x.ofFront(i, 3)};
            Check.row(when + ": front " + i, got, want[i][0], want[i][1], want[i][2], want[i][3]);
        }
    }

    private static void front() {
        ShockTube x = new ShockTube();
        Check.same("the first", x.front(SHOCK, 500, 1, 10), 0);
        Check.same("behind it", x.front(CONTACT, 700, 2, 20), 1);
        Check.same("between", x.front(FLAME, 600, 3, 30), 1);
        Check.same("behind those at its place", x.front(FLAME, 500, 4, 40), 1);
        Check.same("at the left end", x.front(SHOCK, 0, -900, 1), 0);
        Check.same("at the right end", x.front(SHOCK, 100000, 900, 900), 5);
        row("in a row", x, f(SHOCK, 0, -900, 1), f(SHOCK, 500, 1, 10), f(FLAME, 500, 4, 40),
                f(FLAME, 600, 3, 30), f(CONTACT, 700, 2, 20), f(SHOCK, 100000, 900, 900));
    }

    private static void frontWrong() {
        ShockTube x = with(f(SHOCK, 5, 0, 5));
        Check.fails("kind -1", Check.IAE, () -> x.front(-1, 0, 0, 1));
        Check.fails("kind 3", Check.IAE, () -> x.front(3, 0, 0, 1));
        Check.fails("place -1", Check.IAE, () -> x.front(0, -1, 0, 1));
        Check.fails("place 100001", Check.IAE, () -> x.front(0, 100001, 0, 1));
        Check.fails("speed -901", Check.IAE, () -> x.front(0, 0, -901, 1));
        Check.fails("speed 901", Check.IAE, () -> x.front(0, 0, 901, 1));
        Check.fails("strength 0", Check.IAE, () -> x.front(0, 0, 0, 0));
        Check.fails("strength 901", Check.IAE, () -> x.front(0, 0, 0, 901));
        row("it stays", x, f(SHOCK, 5, 0, 5));
        for (int i = 1; i < 8; i++) {
            x.front(CONTACT, 10 * i, 0, i);
        }
        Check.fails("a ninth", Check.ISE, () -> x.front(0, 0, 0, 1));
        Check.fails("the argument first", Check.IAE, () -> x.front(0, 0, 0, 0));
        Check.same("eight stay", x.fronts(), 8);
    }

    /** The first two meet at 1075, then the right one of them and the third at 1042, left of that. */
    private static ShockTube outOfOrder() {
        ShockTube x = with(f(SHOCK, 1060, 40, 5), f(CONTACT, 1080, -30, 5), f(SHOCK, 1090, -80, 4));
        x.tick(1);
        return x;
    }

    private static void frontInARowOutOfOrder() {
        row("out of order", outOfOrder(), f(CONTACT, 1075, -26, 5), f(SHOCK, 1042, -80, 4), f(SHOCK, 1042, 40, 4));
        Check.same("behind the last one that is not greater", outOfOrder().front(FLAME, 1050, 0, 1), 3);
        Check.same("also at its place", outOfOrder().front(FLAME, 1042, 0, 1), 3);
        Check.same("ahead of all", outOfOrder().front(FLAME, 1041, 0, 1), 0);
        ShockTube x = outOfOrder();
        x.tick(1);
        row("they meet in the next tick", x, f(SHOCK, 1005, -80, 3), f(CONTACT, 1005, -34, 5), f(SHOCK, 1082, 40, 4));
    }

    private static void tickMoves() {
        ShockTube x = with(f(SHOCK, 100, 30, 5), f(CONTACT, 500, -7, 6), f(FLAME, 900, 0, 7));
        Check.same("three stay", x.tick(3), 3);
        row("moved", x, f(SHOCK, 190, 30, 5), f(CONTACT, 479, -7, 6), f(FLAME, 900, 0, 7));
        x.tick(1);
        row("and again", x, f(SHOCK, 220, 30, 5), f(CONTACT, 472, -7, 6), f(FLAME, 900, 0, 7));
    }

    private static void tickEnds() {
        ShockTube x = with(f(SHOCK, 20, -20, 5), f(SHOCK, 99980, 20, 601));
        x.tick(1);
        row("at the ends", x, f(SHOCK, 0, -20, 5), f(SHOCK, 100000, 20, 601));
        x.tick(1);
        row("turned", x, f(SHOCK, 0, 20, 7), f(SHOCK, 100000, -20, 900));
        x.tick(1);
        row("back", x, f(SHOCK, 20, 20, 7), f(SHOCK, 99980, -20, 900));
        x = with(f(SHOCK, 99999, 2, 1));
        x.tick(1);
        row("the least strength", x, f(SHOCK, 100000, -2, 1));
        x = with(f(CONTACT, 5, -5, 5), f(FLAME, 99990, 10, 5));
        Check.same("not beyond", x.tick(1), 2);
        Check.same("gone", x.tick(1), 0);
        x = with(f(FLAME, 5, -6, 5), f(CONTACT, 50, 0, 5), f(CONTACT, 99990, 11, 5));
        Check.same("two are gone", x.tick(1), 1);
        row("the one between", x, f(CONTACT, 50, 0, 5));
    }

    private static void whoMeets() {
        ShockTube x = with(f(CONTACT, 100, 10, 5), f(CONTACT, 120, 0, 6));
        Check.same("not yet", x.tick(1), 2);
        Check.same("at the same place, less ahead", x.tick(1), 1);
        row("the stronger one", x, f(CONTACT, 120, 0, 6));
        x = with(f(CONTACT, 100, 10, 5), f(CONTACT, 100, 10, 6));
        Check.same("at the same place as ahead", x.tick(4), 2);
        x = with(f(CONTACT, 100, 10, 5), f(CONTACT, 100, 9, 6));
        Check.same("greater now", x.tick(1), 1);
        row("at the half, rounded down", x, f(CONTACT, 109, 9, 6));
        x = with(f(CONTACT, 100, 9, 5), f(CONTACT, 100, 10, 6));
        Check.same("less now", x.tick(5), 2);
    }

    /** They part at 100, where both met; the one that turned at 0 comes back to it by 50. */
    private static void aheadOfTheTick() {
        ShockTube x = with(f(SHOCK, 100, 0, 20), f(SHOCK, 150, -50, 20));
        x.tick(1);
        row("they meet", x, f(SHOCK, 100, -50, 20), f(SHOCK, 100, 0, 20));
        x.tick(4);
        row("turned", x, f(SHOCK, 50, 50, 30), f(SHOCK, 100, 0, 20));
        x.tick(1);
        row("they meet again", x, f(SHOCK, 100, 0, 20), f(CONTACT, 100, 5, 10), f(SHOCK, 100, 50, 30));
        x.tick(1);
        row("and part", x, f(SHOCK, 100, 0, 20), f(CONTACT, 105, 5, 10), f(SHOCK, 150, 50, 30));
    }

    private static void shocksGoThrough() {
        ShockTube x = with(f(SHOCK, 100, 50, 30), f(SHOCK, 140, -35, 10));
        Check.same("a contact comes", x.tick(1), 3);
        row("through", x, f(SHOCK, 127, -35, 10), f(CONTACT, 127, 1, 20), f(SHOCK, 127, 50, 30));
        x = with(f(SHOCK, 100, 16, 10), f(SHOCK, 140, -35, 30));
        x.tick(1);
        row("toward 0", x, f(SHOCK, 110, -35, 30), f(CONTACT, 110, -1, 20), f(SHOCK, 110, 16, 10));
        x = with(f(SHOCK, 100, 50, 30), f(SHOCK, 140, -35, 30));
        Check.same("none between the like", x.tick(1), 2);
        row("through, alike", x, f(SHOCK, 127, -35, 30), f(SHOCK, 127, 50, 30));
        x.tick(1);
        row("and on", x, f(SHOCK, 92, -35, 30), f(SHOCK, 177, 50, 30));
        x = with(f(SHOCK, 100, 50, 30), f(SHOCK, 140, 0, 10));
        x.tick(1);
        row("one without a speed", x, f(SHOCK, 145, 0, 10), f(CONTACT, 145, 5, 20), f(SHOCK, 145, 50, 30));
        x = with(f(SHOCK, 100, 0, 30), f(SHOCK, 140, -50, 10));
        x.tick(1);
        row("the left one without a speed", x, f(SHOCK, 95, -50, 10), f(CONTACT, 95, -5, 20), f(SHOCK, 95, 0, 30));
    }

    private static void shocksMerge() {
        ShockTube x = with(f(SHOCK, 100, 50, 30), f(SHOCK, 120, 17, 10));
        Check.same("one is left", x.tick(1), 1);
        row("to the right", x, f(SHOCK, 143, 41, 40));
        x = with(f(SHOCK, 100, -17, 30), f(SHOCK, 120, -50, 11));
        x.tick(1);
        row("to the left, toward 0", x, f(SHOCK, 76, -25, 41));
        x = with(f(SHOCK, 100, 500, 700), f(SHOCK, 120, 100, 800));
        x.tick(1);
        row("the strength is held, the mean is by the whole sum", x, f(SHOCK, 410, 286, 900));
    }

    private static void shockAndContact() {
        ShockTube x = with(f(SHOCK, 100, 55, 25), f(CONTACT, 120, -10, 7));
        x.tick(1);
        row("to the right", x, f(CONTACT, 132, -5, 7), f(SHOCK, 132, 55, 22));
        x = with(f(CONTACT, 100, 10, 7), f(SHOCK, 120, -55, 1));
        x.tick(1);
        row("to the left, at least 1", x, f(SHOCK, 87, -55, 1), f(CONTACT, 87, 5, 7));
        x = with(f(SHOCK, 100, 900, 9), f(CONTACT, 101, 850, 7));
        x.tick(1);
        row("held to 900", x, f(CONTACT, 975, 900, 7), f(SHOCK, 975, 900, 8));
        x = with(f(CONTACT, 2000, -850, 7), f(SHOCK, 2001, -900, 9));
        x.tick(1);
        row("held to -900", x, f(SHOCK, 1125, -900, 8), f(CONTACT, 1125, -900, 7));
    }

    private static void shockAndFlame() {
        ShockTube x = with(f(SHOCK, 100, 55, 25), f(FLAME, 120, 12, 7));
        x.tick(1);
        row("to the right", x, f(FLAME, 143, 24, 7), f(SHOCK, 143, 55, 25));
        x = with(f(FLAME, 1000, -500, 7), f(SHOCK, 1010, -600, 9));
        x.tick(1);
        row("to the left, at least -900", x, f(SHOCK, 455, -600, 9), f(FLAME, 455, -900, 7));
        x = with(f(SHOCK, 100, 600, 9), f(FLAME, 110, 451, 7));
        x.tick(1);
        row("at most 900", x, f(FLAME, 630, 900, 7), f(SHOCK, 630, 600, 9));
    }

    private static void contactAndFlame() {
        ShockTube x = with(f(CONTACT, 100, 40, 1), f(FLAME, 120, -12, 900));
        Check.same("one is left", x.tick(1), 1);
        row("the contact", x, f(CONTACT, 124, 40, 1));
        x = with(f(FLAME, 100, 40, 900), f(CONTACT, 120, -12, 1));
        Check.same("one is left again", x.tick(1), 1);
        row("the contact again", x, f(CONTACT, 124, -12, 1));
    }

    private static void alike() {
        ShockTube x = with(f(FLAME, 100, 40, 8), f(FLAME, 120, -12, 9));
        x.tick(1);
        row("the right one is stronger", x, f(FLAME, 124, -12, 9));
        x = with(f(FLAME, 100, 40, 9), f(FLAME, 120, -12, 8));
        x.tick(1);
        row("the left one is stronger", x, f(FLAME, 124, 40, 9));
        x = with(f(CONTACT, 100, 40, 9), f(CONTACT, 120, -12, 9));
        x.tick(1);
        row("as strong: the left one", x, f(CONTACT, 124, 40, 9));
    }

    private static void goesOnBehindAMeeting() {
        ShockTube x = with(f(CONTACT, 100, 40, 9), f(CONTACT, 110, 20, 5), f(FLAME, 131, 0, 900));
        x.tick(1);
        row("what is left meets the next", x, f(CONTACT, 133, 40, 9));
        x = with(f(CONTACT, 100, 40, 9), f(CONTACT, 110, 20, 5), f(FLAME, 136, -1, 900));
        x.tick(1);
        row("at the place of the meeting, that was ahead", x, f(CONTACT, 135, 40, 9));
        x = with(f(CONTACT, 100, 40, 9), f(CONTACT, 110, 20, 5), f(FLAME, 135, 0, 900));
        x.tick(1);
        row("the same, and not less ahead", x, f(CONTACT, 135, 40, 9), f(FLAME, 135, 0, 900));
        x = with(f(FLAME, 98, 0, 3), f(CONTACT, 100, 0, 9), f(CONTACT, 110, -20, 5));
        x.tick(1);
        row("the left neighbour is not looked at again", x, f(FLAME, 98, 0, 3), f(CONTACT, 95, 0, 9));
        x.tick(1);
        row("but in the next tick", x, f(CONTACT, 96, 0, 9));
        x = with(f(SHOCK, 100, 50, 30), f(SHOCK, 140, -35, 10), f(FLAME, 141, -15, 3));
        x.tick(1);
        row("the right one of three meets the flame", x, f(SHOCK, 127, -35, 10), f(CONTACT, 127, 1, 20),
                f(FLAME, 126, -30, 3), f(SHOCK, 126, 50, 30));
    }

    private static void eightFronts() {
        ShockTube x = with(f(SHOCK, 100, 50, 30), f(SHOCK, 140, -35, 10), f(FLAME, 5000, 0, 1), f(FLAME, 6000, 0, 1),
                f(FLAME, 7000, 0, 1), f(FLAME, 8000, 0, 1), f(FLAME, 9000, 0, 1), f(FLAME, 9500, 0, 1));
        Check.same("no room for a contact", x.tick(1), 8);
        Check.same("the right one is first", x.ofFront(0, 2), -35);
        Check.same("the left one is next", x.ofFront(1, 2), 50);
        x = with(f(SHOCK, 100, 50, 30), f(SHOCK, 140, -35, 10), f(FLAME, 5000, 0, 1), f(FLAME, 6000, 0, 1),
                f(FLAME, 7000, 0, 1), f(FLAME, 8000, 0, 1), f(FLAME, 9000, 0, 1));
        Check.same("room for one", x.tick(1), 8);
        Check.same("the contact", x.ofFront(1, 0), CONTACT);
    }

    private static void tickWrong() {
        ShockTube x = with(f(SHOCK, 100, 30, 5));
        Check.fails("0 ticks", Check.IAE, () -> x.tick(0));
        Check.fails("-1 ticks", Check.IAE, () -> x.tick(-1));
        Check.fails("101 ticks", Check.IAE, () -> x.tick(101));
        row("it stays", x, f(SHOCK, 100, 30, 5));
        Check.same("100 ticks", x.tick(100), 1);
        row("behind 100", x, f(SHOCK, 3100, 30, 5));
        Check.same("none", new ShockTube().tick(100), 0);
    }

    private static void ofFront() {
        ShockTube x = with(f(FLAME, 100, -30, 5));
        Check.same("fronts", x.fronts(), 1);
        Check.same("kind", x.ofFront(0, 0), FLAME);
        Check.same("place", x.ofFront(0, 1), 100);
        Check.same("speed", x.ofFront(0, 2), -30);
        Check.same("strength", x.ofFront(0, 3), 5);
        Check.fails("front -1", Check.IOB, () -> x.ofFront(-1, 0));
        Check.fails("front 1", Check.IOB, () -> x.ofFront(1, 4));
        Check.fails("what -1", Check.IAE, () -> x.ofFront(0, -1));
        Check.fails("what 4", Check.IAE, () -> x.ofFront(0, 4));
        x.tick(4);
        Check.fails("it is gone", Check.IOB, () -> x.ofFront(0, 0));
    }
}
