/**
 * The sentences of promises 1, 23 and 24 that name an edge, each with a test of its own. Calls
 * that are refused stand in RefusedTest.
 */
public final class KeepEdgeTest {
    public static void main(String[] args) {
        aNewObjectIsKept();
        nothingKeptAtFirst();
        firstAndLastSlot();
        inPlaceOfWhatWasThere();
        itStaysKept();
        keptAndGoneBackAtOnce();
        theMostAndTheLeastCells();
        stepsAtTheEnd();
        countsAndProbes();
        gasAndIgnition();
        anewAskedAheadAndBehind();
        theFullRowAndTheEmptyOne();
        frontsBehindATick();
        pipeAndNone();
        cavityAndGreatestHead();
        theLastCall();
        Check.end("KeepEdgeTest");
    }

    private static ShockTube busy(int cells) {
        ShockTube x = new ShockTube();
        x.shape(cells, ShockTube.OPEN, ShockTube.WALL);
        for (int i = 0; i < cells; i++) {
            x.cell(i, 1000 + 10 * i, 5 * i - 20, 3000 + 70 * i, 20 * i);
        }
        return x;
    }

    private static void aNewObjectIsKept() {
        ShockTube x = new ShockTube();
        long[] before = Shown.all(x);
        x.keep(0);
        x.shape(3, ShockTube.OPEN, ShockTube.OPEN);
        x.gas(ShockTube.STEAM);
        x.cell(2, 1, 0, 5, 1);
        x.ignition(0, 100, 1000);
        x.step(10, 3);
        x.front(ShockTube.SHOCK, 5, 5, 5);
        x.pipe(1, 1, 1, 1, 1, 1);
        x.goBack(0);
        Check.row("a new one again", Shown.all(x), before);
        ShockTube y = new ShockTube();
        for (int i = 0; i < 8; i++) {
            x.cell(i, 1000, 30 - i, 2500000, 1000);
            y.cell(i, 1000, 30 - i, 2500000, 1000);
        }
        x.step(1, 5);
        y.step(1, 5);
        Check.row("its walls, its gas, and nothing burns", Shown.all(x), Shown.all(y));
    }

    private static void nothingKeptAtFirst() {
        ShockTube x = new ShockTube();
        for (int slot = 0; slot < 4; slot++) {
            int there = slot;
            Check.fails("nothing at " + slot, Check.ISE, () -> x.goBack(there));
        }
        x.keep(1);
        x.goBack(1);
        Check.fails("still nothing at 0", Check.ISE, () -> x.goBack(0));
        Check.fails("still nothing at 2", Check.ISE, () -> x.goBack(2));
        Check.fails("still nothing at 3", Check.ISE, () -> x.goBack(3));
    }

    private static void firstAndLastSlot() {
        ShockTube x = new ShockTube();
        x.keep(3);
        x.front(ShockTube.FLAME, 7, 0, 1);
        x.keep(0);
        x.goBack(3);
        Check.same("kept at 3", x.fronts(), 0);
        x.goBack(0);
        Check.same("kept at 0", x.fronts(), 1);
    }

    private static void inPlaceOfWhatWasThere() {
        ShockTube x = busy(5);
        x.keep(2);
        x.step(30, 4);
        long[] later = Shown.all(x);
        x.keep(2);
        x.step(30, 4);
        x.goBack(2);
        Check.row("the later one", Shown.all(x), later);
    }

    private static void itStaysKept() {
        ShockTube x = busy(4);
        x.step(30, 2);
        x.keep(0);
        long[] before = Shown.all(x);
        for (int i = 0; i < 3; i++) {
            x.cell(i, 500, 0, 100 * i, 3);
            x.step(20, 2 + i);
            x.goBack(0);
            Check.same("steps", x.steps(), 2);
        }
        Check.row("as kept", Shown.all(x), before);
    }

    private static void keptAndGoneBackAtOnce() {
        ShockTube x = busy(4);
        x.step(30, 2);
        long[] before = Shown.all(x);
        x.keep(0);
        x.goBack(0);
        x.goBack(0);
        Check.row("nothing changed", Shown.all(x), before);
    }

    private static void theMostAndTheLeastCells() {
        ShockTube x = busy(32);
        x.step(20, 2);
        x.keep(0);
        x.shape(2, ShockTube.WALL, ShockTube.OPEN);
        x.cell(1, 1100, 3, 2200, 4);
        x.step(20, 2);
        x.keep(1);
        x.goBack(0);
        ShockTube y = busy(32);
        y.step(20, 2);
        for (int i = 0; i < 32; i++) {
            Check.same("mass of 32", x.tube(i, 0), y.tube(i, 0));
            Check.same("energy of 32 anew", x.anew(i, 2), y.tube(i, 2));
            Check.same("probe of 32", x.probe(i, 0), y.probe(i, 0));
        }
        x.goBack(1);
        Check.same("2 cells", x.many(), 2);
        Check.fails("no third", Check.IOB, () -> x.tube(2, 0));
        x.step(20, 2);
        Check.same("fuel of 2 anew", x.anew(1, 3), x.tube(1, 3));
        Check.same("isKept of 2", x.isKept(2) ? 1 : 0, 1);
    }

    private static void stepsAtTheEnd() {
        ShockTube x = new ShockTube();
        for (int i = 0; i < 5; i++) {
            x.step(1, 50);
        }
        x.step(1, 49);
        x.keep(0);
        x.step(1, 1);
        x.keep(1);
        x.goBack(0);
        Check.same("the 300th once more", x.step(1, 1), 1);
        x.goBack(1);
        Check.fails("none behind 300", Check.ISE, () -> x.step(1, 1));
        x.shape(2, 1, 1);
        x.step(1, 50);
        x.goBack(0);
        Check.fails("none of two behind 299", Check.ISE, () -> x.step(1, 2));
        Check.same("299", x.steps(), 299);
    }

    private static void countsAndProbes() {
        ShockTube x = busy(3);
        x.ignition(0, 20, 7);
        x.step(30, 2);
        x.keep(0);
        long[] before = Shown.all(x);
        Check.same("something came", x.came(0) != 0 && x.came(4) != 0 && x.probe(2, 0) != 0 ? 1 : 0, 1);
        x.shape(3, ShockTube.OPEN, ShockTube.WALL);
        Check.same("nothing came", x.came(0) + x.came(4) + x.probe(2, 0), 0);
        x.goBack(0);
        Check.row("all is back", Shown.all(x), before);
        x.step(30, 1);
        Check.same("counts go on", x.isKept(0) && x.isKept(1) && x.isKept(2) && x.isKept(3) ? 1 : 0, 1);
    }

    private static void gasAndIgnition() {
        ShockTube x = busy(3);
        x.gas(ShockTube.HELIUM);
        x.ignition(0, 20, 7);
        x.keep(3);
        x.step(30, 3);
        long[] behind = Shown.all(x);
        x.goBack(3);
        x.gas(ShockTube.AIR);
        x.goBack(3);
        x.ignition(100000, 0, 0);
        x.goBack(3);
        x.step(30, 3);
        Check.row("as it would have", Shown.all(x), behind);
    }

    /** What is asked anew must not make what was kept go on. */
    private static void anewAskedAheadAndBehind() {
        ShockTube x = busy(3);
        x.step(30, 2);
        x.keep(0);
        x.cell(1, 700, 9, 1800, 70);
        x.step(25, 2);
        Check.same("anew behind", x.anew(1, 0), x.tube(1, 0));
        x.goBack(0);
        Check.same("anew back", x.anew(1, 0), x.tube(1, 0));
        x.cell(2, 750, 9, 1800, 70);
        x.step(35, 1);
        x.keep(1);
        x.goBack(0);
        Check.same("anew back again", x.anew(2, 2), x.tube(2, 2));
        x.goBack(1);
        for (int what = 0; what < 4; what++) {
            Check.same("anew of the other", x.anew(2, what), x.tube(2, what));
        }
    }

    private static void theFullRowAndTheEmptyOne() {
        ShockTube x = new ShockTube();
        x.keep(0);
        for (int i = 0; i < 8; i++) {
            x.front(ShockTube.CONTACT, i, 0, 1 + i);
        }
        x.keep(1);
        x.goBack(0);
        Check.same("none", x.tick(1), 0);
        Check.fails("none to tell of", Check.IOB, () -> x.ofFront(0, 0));
        Check.same("room", x.front(ShockTube.FLAME, 9, 0, 1), 0);
        x.goBack(1);
        Check.fails("a ninth", Check.ISE, () -> x.front(ShockTube.FLAME, 9, 0, 1));
        Check.same("the eighth", x.ofFront(7, 3), 8);
    }

    private static void frontsBehindATick() {
        ShockTube x = new ShockTube();
        x.front(ShockTube.SHOCK, 500, 30, 7);
        x.tick(1);
        x.keep(0);
        x.tick(2);
        x.goBack(0);
        Check.same("its place behind the tick", x.ofFront(0, 1), 530);
        x.tick(1);
        Check.same("and on", x.ofFront(0, 1), 560);
    }

    private static void pipeAndNone() {
        ShockTube x = new ShockTube();
        x.keep(0);
        x.pipe(20, 10, 1, 2, 400, 20);
        x.valve(30);
        x.reservoir(350);
        x.keep(1);
        x.goBack(0);
        Check.fails("no valve", Check.ISE, () -> x.valve(1));
        Check.fails("no reservoir", Check.ISE, () -> x.reservoir(1));
        x.goBack(1);
        Check.same("its last node", x.node(20, 1), 20);
        Check.same("its opening", x.valve(1), 30);
        Check.same("its reservoir", x.reservoir(1), 350);
        x.goBack(1);
        Check.same("its opening stays kept", x.valve(1), 30);
    }

    private static void cavityAndGreatestHead() {
        ShockTube x = new ShockTube();
        x.pipe(1, 10, 0, 1, 0, -20);
        x.flow(1);
        x.keep(0);
        x.reservoir(2000);
        x.valve(0);
        x.flow(3);
        Check.same("greater", x.node(1, 3) > 0 ? 1 : 0, 1);
        x.goBack(0);
        Check.same("the cavity", x.node(1, 2), 10);
        Check.same("the greatest head", x.node(1, 3), 0);
        x.flow(1);
        Check.same("it grows", x.node(1, 2), 20);
    }

    private static void theLastCall() {
        ShockTube x = busy(2);
        x.keep(0);
        for (int i = 0; i < 507; i++) {
            x.cell(i % 2, 900 + i, 0, 2000, 0);
        }
        x.goBack(0);
        Check.same("the 512th", x.anew(1, 0), 1010);
    }
}
