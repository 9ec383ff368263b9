/** Promises 23 and 24. */
public final class KeepTest {
    public static void main(String[] args) {
        tubeComesBack();
        storyComesBack();
        gasAndIgnitionComeBack();
        shapeComesBack();
        frontsComeBack();
        frontsComeBackWhole();
        pipeComesBack();
        cavityComesBack();
        noPipeComesBack();
        slots();
        wrong();
        Check.end("KeepTest");
    }

    private static ShockTube begun() {
        ShockTube x = new ShockTube();
        x.shape(4, ShockTube.OPEN, ShockTube.WALL);
        x.cell(1, 1500, 60, 7000, 600);
        x.ignition(100, 40, 8);
        x.step(40, 5);
        x.front(ShockTube.SHOCK, 100, 50, 30);
        x.front(ShockTube.SHOCK, 900, -35, 10);
        x.pipe(3, 10, 1, 2, 400, 20);
        x.valve(30);
        x.flow(3);
        return x;
    }

    private static void goOn(ShockTube x) {
        x.step(35, 4);
        x.tick(9);
        x.flow(4);
    }

    private static void tubeComesBack() {
        ShockTube x = begun();
        long[] before = Shown.all(x);
        x.keep(0);
        Check.row("keep changes nothing", Shown.all(x), before);
        goOn(x);
        long[] behind = Shown.all(x);
        Check.same("something changed", java.util.Arrays.equals(before, behind) ? 0 : 1, 1);
        x.goBack(0);
        Check.row("back", Shown.all(x), before);
    }

    private static void storyComesBack() {
        ShockTube x = begun();
        x.keep(2);
        goOn(x);
        long[] behind = Shown.all(x);
        x.goBack(2);
        goOn(x);
        Check.row("it goes on as it would have", Shown.all(x), behind);
        x.goBack(2);
        x.cell(0, 700, 0, 9000, 0);
        goOn(x);
        x.goBack(2);
        goOn(x);
        Check.row("and once more: it stays kept", Shown.all(x), behind);
    }

    private static void gasAndIgnitionComeBack() {
        ShockTube x = begun();
        x.keep(1);
        goOn(x);
        long[] behind = Shown.all(x);
        x.goBack(1);
        x.gas(ShockTube.STEAM);
        x.ignition(0, 99, 99);
        goOn(x);
        x.goBack(1);
        goOn(x);
        Check.row("the gas and the ignition are back", Shown.all(x), behind);
    }

    private static void shapeComesBack() {
        ShockTube x = begun();
        x.keep(3);
        long[] before = Shown.all(x);
        x.shape(32, ShockTube.WALL, ShockTube.OPEN);
        x.step(10, 3);
        x.goBack(3);
        Check.row("the shape is back", Shown.all(x), before);
        goOn(x);
        ShockTube y = begun();
        goOn(y);
        Check.row("its ends are back", Shown.all(x), Shown.all(y));
        for (int i = 0; i < 5; i++) {
            x.step(1, 50);
        }
        x.step(1, 41);
        Check.fails("300 steps", Check.ISE, () -> x.step(1, 1));
        x.goBack(3);
        Check.same("the steps are back", x.steps(), 5);
        Check.same("so there is room", x.step(1, 50), 50);
    }

    private static void frontsComeBack() {
        ShockTube x = begun();
        x.keep(0);
        x.tick(100);
        x.front(ShockTube.FLAME, 0, 0, 1);
        x.goBack(0);
        Check.same("two fronts", x.fronts(), 2);
        Check.same("the first", x.ofFront(0, 1), 100);
        Check.same("the second", x.ofFront(1, 2), -35);
        ShockTube y = new ShockTube();
        y.keep(0);
        y.front(ShockTube.FLAME, 0, 0, 1);
        y.goBack(0);
        Check.same("no fronts", y.fronts(), 0);
    }

    private static void frontsComeBackWhole() {
        ShockTube x = new ShockTube();
        x.front(ShockTube.SHOCK, 100, 50, 30);
        x.front(ShockTube.CONTACT, 300, -10, 10);
        x.front(ShockTube.FLAME, 500, -20, 7);
        x.keep(0);
        x.tick(5);
        Check.same("they have met", x.ofFront(0, 0), ShockTube.CONTACT);
        x.goBack(0);
        long[][] want = {{0, 100, 50, 30}, {1, 300, -10, 10}, {2, 500, -20, 7}};
        for (int i = 0; i < 3; i++) {
            long[] got = {x.ofFront(i, 0), x.ofFront(i, 1), x.ofFront(i, 2), x.ofFront(i, 3)};
            Check.row("front " + i, got, want[i]);
        }
    }

    private static void cavityComesBack() {
        ShockTube x = new ShockTube();
        x.pipe(2, 10, 0, 1, 500, 0);
        x.reservoir(0);
        x.flow(2);
        x.keep(1);
        x.flow(2);
        Check.same("less of it", x.node(1, 2), 96);
        x.goBack(1);
        Check.same("as kept", x.node(1, 2), 70);
        x.pipe(1, 1, 0, 1, 0, 0);
        x.goBack(1);
        x.flow(2);
        Check.same("less of it again", x.node(1, 2), 96);
    }

    private static void pipeComesBack() {
        ShockTube x = begun();
        x.reservoir(350);
        x.keep(0);
        long[] before = Shown.all(x);
        x.pipe(20, 1, 2, 3, 4, 5);
        x.goBack(0);
        Check.row("the pipe is back", Shown.all(x), before);
        Check.same("its valve", x.valve(30), 30);
        Check.same("its reservoir", x.reservoir(350), 350);
        x.flow(6);
        ShockTube y = begun();
        y.reservoir(350);
        y.flow(6);
        Check.row("it goes on as it would have", Shown.all(x), Shown.all(y));
    }

    private static void noPipeComesBack() {
        ShockTube x = new ShockTube();
        x.keep(0);
        x.pipe(2, 1, 2, 3, 4, 5);
        x.goBack(0);
        Check.fails("no pipe", Check.ISE, () -> x.flow(1));
        Check.fails("no node", Check.IOB, () -> x.node(0, 0));
    }

    private static void slots() {
        ShockTube x = new ShockTube();
        for (int slot = 0; slot < 4; slot++) {
            x.front(ShockTube.FLAME, slot, 0, 1);
            x.keep(slot);
        }
        for (int slot = 0; slot < 4; slot++) {
            x.goBack(slot);
            Check.same("slot " + slot, x.fronts(), slot + 1);
        }
        x.goBack(1);
        x.keep(3);
        x.goBack(0);
        x.goBack(3);
        Check.same("in place of what was there", x.fronts(), 2);
        x.goBack(2);
        Check.same("the others stay", x.fronts(), 3);
    }

    private static void wrong() {
        ShockTube x = begun();
        x.keep(1);
        goOn(x);
        long[] behind = Shown.all(x);
        Check.fails("keep -1", Check.IAE, () -> x.keep(-1));
        Check.fails("keep 4", Check.IAE, () -> x.keep(4));
        Check.fails("goBack -1", Check.IAE, () -> x.goBack(-1));
        Check.fails("goBack 4", Check.IAE, () -> x.goBack(4));
        Check.fails("nothing kept at 0", Check.ISE, () -> x.goBack(0));
        Check.fails("nothing kept at 3", Check.ISE, () -> x.goBack(3));
        Check.row("nothing changed", Shown.all(x), behind);
    }
}
