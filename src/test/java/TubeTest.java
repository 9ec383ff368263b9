/** Promises 1 to 13, with numbers found by hand. */
public final class TubeTest {
    public static void main(String[] args) {
        aNewObject();
        nothingBurnsAtFirst();
        shape();
        shapeEdges();
        gas();
        cell();
        cellWrong();
        ignition();
        ignitionEdges();
        stepBetweenWalls();
        stepAgainstWalls();
        wallsBehindOpenEnds();
        stepWithOpenEnds();
        stepRefusedBySpeed();
        stepRefusedToTheUnit();
        stepRefusedByMass();
        stepRefusedByEnergy();
        stepsRefusedInBetween();
        stepLimits();
        tube();
        anew();
        probe();
        came();
        isKept();
        manyAndSteps();
        moreCallsThanPromised();
        Check.end("TubeTest");
    }

    private static long[] cellOf(ShockTube x, int cell) {
        return new long[] {x.tube(cell, 0), x.tube(cell, 1), x.tube(cell, 2), x.tube(cell, 3)};
    }

    private static long[] anewOf(ShockTube x, int cell) {
        return new long[] {x.anew(cell, 0), x.anew(cell, 1), x.anew(cell, 2), x.anew(cell, 3)};
    }

    private static long[] cameOf(ShockTube x) {
        return new long[] {x.came(0), x.came(1), x.came(2), x.came(3), x.came(4), x.came(5)};
    }

    private static void isAllKept(String when, ShockTube x) {
        for (int what = 0; what < 4; what++) {
            Check.same("isKept(" + what + ") " + when, x.isKept(what) ? 1 : 0, 1);
        }
    }

    private static void aNewObject() {
        ShockTube x = new ShockTube();
        Check.same("many of a new tube", x.many(), 8);
        Check.same("steps of a new tube", x.steps(), 0);
        for (int i = 0; i < 8; i++) {
            Check.row("a new cell " + i, cellOf(x, i), 1000, 0, 2000, 0);
            Check.row("a new cell anew " + i, anewOf(x, i), 1000, 0, 2000, 0);
            Check.same("a new probe " + i, x.probe(i, 0) + x.probe(i, 1), 0);
        }
        Check.same("pressure", x.tube(0, 4), 800);
        Check.same("speed", x.tube(0, 5), 0);
        Check.same("sound", x.tube(0, 6), 1058);
        Check.same("temperature", x.tube(0, 7), 80);
        Check.row("came", cameOf(x), 0, 0, 0, 0, 0, 0);
        isAllKept("at first", x);
        Check.same("fronts at first", x.fronts(), 0);
        Check.fails("a node at first", Check.IOB, () -> x.node(0, 0));
        Check.fails("the valve at first", Check.ISE, () -> x.valve(1));
        Check.fails("going back at first", Check.ISE, () -> x.goBack(0));
        x.cell(0, 1000, 10, 2000, 0);
        x.cell(7, 1000, 10, 2000, 0);
        x.step(100, 1);
        Check.same("no mass comes over walls", x.came(0), 0);
    }

    private static void nothingBurnsAtFirst() {
        ShockTube x = hotTube();
        Check.same("a hot step", x.step(1, 1), 1);
        Check.same("nothing burns at first", x.came(5), 0);
    }

    /** All alike between walls, so that nothing but burning changes a cell; at 100000 to the unit. */
    private static ShockTube hotTube() {
        ShockTube x = new ShockTube();
        for (int i = 0; i < 8; i++) {
            x.cell(i, 1000, 0, 2500000, 1000);
        }
        Check.same("hot", x.tube(3, 7), 100000);
        return x;
    }

    private static void shape() {
        ShockTube x = new ShockTube();
        x.gas(ShockTube.STEAM);
        x.ignition(0, 50, 10);
        x.cell(0, 900, 5, 3000, 100);
        x.step(50, 3);
        Check.same("steps ahead of it", x.steps(), 3);
        x.shape(3, ShockTube.OPEN, ShockTube.WALL);
        Check.same("many", x.many(), 3);
        Check.same("steps", x.steps(), 0);
        for (int i = 0; i < 3; i++) {
            Check.row("a cell", cellOf(x, i), 1000, 0, 2000, 0);
            Check.row("a cell anew", anewOf(x, i), 1000, 0, 2000, 0);
            Check.same("a probe", x.probe(i, 0) + x.probe(i, 1), 0);
        }
        Check.row("came", cameOf(x), 0, 0, 0, 0, 0, 0);
        isAllKept("behind shape", x);
        Check.same("the gas stays", x.tube(0, 4), 666);
        for (int i = 0; i < 3; i++) {
            x.cell(i, 1000, 0, 2000, 100);
        }
        x.step(10, 1);
        Check.same("the ignition stays", x.came(5), 150);
        Check.row("anew with both", anewOf(x, 1), 1000, 0, 2500, 50);
    }

    private static void shapeEdges() {
        ShockTube x = new ShockTube();
        x.shape(2, 0, 0);
        Check.same("2 cells", x.many(), 2);
        x.shape(32, 1, 1);
        Check.same("32 cells", x.many(), 32);
        Check.row("the last of 32", cellOf(x, 31), 1000, 0, 2000, 0);
        x.cell(31, 500, 0, 2000, 7);
        x.step(20, 2);
        Check.fails("1 cell", Check.IAE, () -> x.shape(1, 0, 0));
        Check.fails("33 cells", Check.IAE, () -> x.shape(33, 0, 0));
        Check.fails("left -1", Check.IAE, () -> x.shape(8, -1, 0));
        Check.fails("left 2", Check.IAE, () -> x.shape(8, 2, 0));
        Check.fails("right -1", Check.IAE, () -> x.shape(8, 0, -1));
        Check.fails("right 2", Check.IAE, () -> x.shape(8, 0, 2));
        Check.same("many stays", x.many(), 32);
        Check.same("steps stay", x.steps(), 2);
        Check.same("the walls stay", x.came(0), 0);
    }

    private static void gas() {
        ShockTube x = new ShockTube();
        x.gas(ShockTube.HELIUM);
        Check.same("pressure of HELIUM", x.tube(0, 4), 1333);
        Check.same("sound of HELIUM", x.tube(0, 6), 1490);
        Check.same("temperature of HELIUM", x.tube(0, 7), 133);
        x.gas(ShockTube.STEAM);
        Check.same("pressure of STEAM", x.tube(0, 4), 666);
        Check.same("sound of STEAM", x.tube(0, 6), 942);
        Check.same("temperature of STEAM", x.tube(0, 7), 66);
        Check.fails("gas -1", Check.IAE, () -> x.gas(-1));
        Check.fails("gas 3", Check.IAE, () -> x.gas(3));
        Check.same("STEAM stays", x.tube(0, 4), 666);
        x.gas(ShockTube.AIR);
        Check.same("pressure of AIR", x.tube(0, 4), 800);
    }

    private static void cell() {
        ShockTube x = new ShockTube();
        x.cell(7, 700, -60, 2500, 700);
        Check.row("as told", cellOf(x, 7), 700, -60, 2500, 700);
        Check.row("its neighbour", cellOf(x, 6), 1000, 0, 2000, 0);
        isAllKept("behind cell", x);
        x.cell(7, 1, 0, 0, 0);
        Check.row("the least", cellOf(x, 7), 1, 0, 0, 0);
        x.cell(7, 1000000, 10000000, 1000000000, 1000000);
        Check.row("the most", cellOf(x, 7), 1000000, 10000000, 1000000000, 1000000);
        x.cell(7, 1000000, -10000000, 50000000, 0);
        Check.row("nothing within", cellOf(x, 7), 1000000, -10000000, 50000000, 0);
        Check.same("no pressure", x.tube(7, 4), 0);
        x.cell(0, 1, 3, 4, 1);
        Check.row("nothing within, rounded", cellOf(x, 0), 1, 3, 4, 1);
        isAllKept("behind cells", x);
    }

    private static void cellWrong() {
        ShockTube x = new ShockTube();
        x.cell(2, 700, 50, 2500, 7);
        Check.fails("cell -1", Check.IOB, () -> x.cell(-1, 0, 0, 0, 0));
        Check.fails("cell 8", Check.IOB, () -> x.cell(8, 0, 0, 0, 0));
        Check.fails("mass 0", Check.IAE, () -> x.cell(2, 0, 0, 0, 0));
        Check.fails("mass 1000001", Check.IAE, () -> x.cell(2, 1000001, 0, 0, 0));
        Check.fails("momentum too low", Check.IAE, () -> x.cell(2, 1000000, -10000001, 1000000000, 0));
        Check.fails("momentum too high", Check.IAE, () -> x.cell(2, 1000000, 10000001, 1000000000, 0));
        Check.fails("energy -1", Check.IAE, () -> x.cell(2, 10, 0, -1, 0));
        Check.fails("energy 1000000001", Check.IAE, () -> x.cell(2, 10, 0, 1000000001, 0));
        Check.fails("fuel -1", Check.IAE, () -> x.cell(2, 10, 0, 10, -1));
        Check.fails("fuel above the mass", Check.IAE, () -> x.cell(2, 10, 100, 10, 11));
        Check.fails("less than 0 within", Check.ISE, () -> x.cell(2, 1, 3, 3, 1));
        Check.fails("less than 0 within, to the left", Check.ISE, () -> x.cell(2, 1, -3, 3, 1));
        Check.row("it stays", cellOf(x, 2), 700, 50, 2500, 7);
        Check.row("it stays anew", anewOf(x, 2), 700, 50, 2500, 7);
        isAllKept("behind what was refused", x);
    }

    private static void ignition() {
        ShockTube x = new ShockTube();
        for (int i = 0; i < 8; i++) {
            x.cell(i, 1000, 0, 2000, 7);
        }
        x.ignition(81, 50, 10);
        x.step(10, 1);
        Check.same("too cold", x.came(5), 0);
        x.ignition(80, 50, 10);
        x.step(10, 1);
        Check.row("burnt", cellOf(x, 4), 1000, 0, 2030, 4);
        Check.row("came by burning", cameOf(x), 0, 0, 0, 0, 240, 24);
        isAllKept("behind burning", x);
        x.ignition(0, 100, 0);
        x.step(10, 1);
        Check.row("burnt all, cold", cellOf(x, 4), 1000, 0, 2030, 0);
        Check.row("came by burning all", cameOf(x), 0, 0, 0, 0, 240, 56);
    }

    private static void ignitionEdges() {
        ShockTube x = hotTube();
        x.ignition(100000, 100, 1000);
        Check.fails("temperature -1", Check.IAE, () -> x.ignition(-1, 0, 0));
        Check.fails("temperature 100001", Check.IAE, () -> x.ignition(100001, 0, 0));
        Check.fails("part -1", Check.IAE, () -> x.ignition(0, -1, 0));
        Check.fails("part 101", Check.IAE, () -> x.ignition(0, 101, 0));
        Check.fails("heat -1", Check.IAE, () -> x.ignition(0, 0, -1));
        Check.fails("heat 1001", Check.IAE, () -> x.ignition(0, 0, 1001));
        x.step(1, 1);
        Check.same("it stays: fuel", x.came(5), 8000);
        Check.same("it stays: heat", x.came(4), 8000000);
        x.ignition(0, 0, 0);
        Check.same("nothing is left", x.tube(0, 3), 0);
    }

    /** The border in the middle has s 1673: -251 of energy and 140 of momentum; the walls 80 and 200. */
    private static void stepBetweenWalls() {
        ShockTube x = new ShockTube();
        x.shape(2, ShockTube.WALL, ShockTube.WALL);
        x.cell(1, 1000, 0, 5000, 0);
        Check.same("sound to the left", x.tube(0, 6), 1058);
        Check.same("sound to the right", x.tube(1, 6), 1673);
        Check.same("step(100, 1)", x.step(100, 1), 1);
        Check.row("to the left", cellOf(x, 0), 1000, -60, 2251, 0);
        Check.row("to the right", cellOf(x, 1), 1000, -60, 4749, 0);
        Check.row("came", cameOf(x), 0, -120, 0, 0, 0, 0);
        Check.row("anew to the left", anewOf(x, 0), 1000, -60, 2251, 0);
        Check.row("anew to the right", anewOf(x, 1), 1000, -60, 4749, 0);
    }

    /** s is 1395: the left wall turns 2 times 100 away from it, 106, the right one toward it, 134. */
    private static void stepAgainstWalls() {
        ShockTube x = allAlike(1, 1, 1000, 100, 3000);
        x.step(100, 1);
        Check.row("to the left", cellOf(x, 0), 990, 86, 2959, 0);
        Check.row("to the right", cellOf(x, 1), 1010, 86, 3041, 0);
        Check.row("came", cameOf(x), 0, -28, 0, 0, 0, 0);
    }

    private static void wallsBehindOpenEnds() {
        ShockTube x = new ShockTube();
        x.shape(2, ShockTube.OPEN, ShockTube.OPEN);
        x.cell(0, 1000, 900, 5000, 400);
        x.cell(1, 1000, 500, 5000, 400);
        x.step(100, 2);
        Check.same("mass came", x.came(0) != 0 ? 1 : 0, 1);
        x.shape(2, ShockTube.WALL, ShockTube.WALL);
        x.cell(0, 1000, 900, 5000, 400);
        x.cell(1, 1000, 500, 5000, 400);
        x.step(100, 2);
        Check.same("no mass over walls", x.came(0), 0);
        Check.same("no energy over walls", x.came(2), 0);
        Check.same("no fuel over walls", x.came(3), 0);
        Check.same("all mass is there", x.tube(0, 0) + x.tube(1, 0), 2000);
    }

    private static void stepWithOpenEnds() {
        ShockTube x = new ShockTube();
        x.shape(2, ShockTube.OPEN, ShockTube.OPEN);
        x.cell(0, 1000, 100, 3000, 500);
        x.cell(1, 800, -50, 2500, 80);
        Check.same("step to the right", x.step(100, 1), 1);
        Check.row("the left one", cellOf(x, 0), 994, 100, 2997, 497);
        Check.row("the right one", cellOf(x, 1), 821, -30, 2566, 88);
        Check.row("came", cameOf(x), 15, 20, 63, 5, 0, 0);
        isAllKept("behind a step", x);
        x.shape(2, ShockTube.OPEN, ShockTube.OPEN);
        x.cell(0, 1000, -300, 3000, 500);
        x.cell(1, 1500, -250, 2500, 777);
        Check.same("step to the left", x.step(100, 1), 1);
        Check.row("the left one then", cellOf(x, 0), 1038, -284, 2927, 520);
        Check.row("the right one then", cellOf(x, 1), 1457, -242, 2506, 754);
        Check.row("came then", cameOf(x), -5, 24, -67, -3, 0, 0);
        isAllKept("behind a step to the left", x);
    }

    private static ShockTube allAlike(int left, int right, int mass, int momentum, int energy) {
        ShockTube x = new ShockTube();
        x.shape(2, left, right);
        x.cell(0, mass, momentum, energy, 0);
        x.cell(1, mass, momentum, energy, 0);
        return x;
    }

    private static void stepRefusedBySpeed() {
        ShockTube x = allAlike(1, 1, 1000, 0, 2793);
        Check.same("sound 1250", x.tube(0, 6), 1250);
        Check.same("400 times 1250", x.step(400, 1), 1);
        x = allAlike(1, 1, 1000, 0, 2795);
        Check.same("sound 1251", x.tube(0, 6), 1251);
        Check.same("400 times 1251", x.step(400, 1), 0);
        Check.same("no step", x.steps(), 0);
        Check.same("399 times 1251", x.step(399, 1), 1);
        x = allAlike(0, 0, 3000, 1, 8373);
        Check.same("the speed is 0, rounded", x.tube(0, 5), 0);
        Check.same("sound 1250 with it", x.tube(0, 6), 1250);
        Check.same("open: not turned", x.step(400, 1), 1);
        Check.same("a wall to the left: turned to -1", allAlike(1, 0, 3000, 1, 8373).step(400, 1), 0);
        Check.same("a wall to the right: turned to -1", allAlike(0, 1, 3000, 1, 8373).step(400, 1), 0);
    }

    /** Without pressure s is the speed alone. */
    private static void stepRefusedToTheUnit() {
        ShockTube x = allAlike(0, 0, 1000, 500000, 125000000);
        Check.same("speed", x.tube(0, 5), 500000);
        Check.same("no sound", x.tube(0, 6), 0);
        Check.same("500000", x.step(1, 1), 1);
        Check.same("twice that", x.step(2, 1), 0);
        x = allAlike(0, 0, 1000, 500001, 125000500);
        Check.same("500001", x.step(1, 1), 0);
        x = allAlike(0, 0, 1000, -500001, 125000500);
        Check.same("500001 to the left", x.step(1, 1), 0);
    }

    private static void stepRefusedByMass() {
        ShockTube x = new ShockTube();
        x.shape(2, 0, 0);
        x.cell(0, 1, -1, 0, 0);
        x.cell(1, 1, 0, 0, 0);
        Check.same("a mass would be 0", x.step(400, 1), 0);
        Check.row("it stays", cellOf(x, 1), 1, 0, 0, 0);
        x.cell(1, 2, 0, 0, 0);
        Check.same("a mass will be 1", x.step(400, 1), 1);
        Check.row("to the left of it", cellOf(x, 0), 1, -1, 0, 0);
        Check.row("it is 1", cellOf(x, 1), 1, 0, 0, 0);
        x.shape(2, 1, 1);
        x.cell(0, 1000000, 10000000, 1000000000, 1000000);
        x.cell(1, 1000000, -1000000, 1000000000, 0);
        Check.same("a mass would be above", x.step(1, 1), 0);
        Check.row("it stays whole", cellOf(x, 1), 1000000, -1000000, 1000000000, 0);
        Check.row("nothing came", cameOf(x), 0, 0, 0, 0, 0, 0);
    }

    private static void stepRefusedByEnergy() {
        ShockTube x = new ShockTube();
        for (int i = 0; i < 8; i++) {
            x.cell(i, 1000000, 0, 1000000000, 100);
        }
        x.ignition(0, 1, 1);
        Check.same("an energy would be above", x.step(1, 1), 0);
        Check.row("it stays", cellOf(x, 0), 1000000, 0, 1000000000, 100);
        Check.row("nothing burnt", cameOf(x), 0, 0, 0, 0, 0, 0);
        Check.same("no probe", x.probe(0, 0), 0);
        x.ignition(0, 1, 0);
        Check.same("at the most", x.step(1, 1), 1);
        Check.same("burnt without heat", x.came(5), 8);
    }

    /** The steps heat by 500, 250 and 125, then the sound is 1268, too fast for t 400. */
    private static void stepsRefusedInBetween() {
        ShockTube x = new ShockTube();
        for (int i = 0; i < 8; i++) {
            x.cell(i, 1000, 0, 2000, 1000);
        }
        x.ignition(0, 50, 1);
        Check.same("until one is refused", x.step(400, 50), 3);
        Check.same("steps", x.steps(), 3);
        Check.row("behind three", cellOf(x, 5), 1000, 0, 2875, 125);
        Check.row("anew behind three", anewOf(x, 5), 1000, 0, 2875, 125);
        Check.same("no more", x.step(400, 50), 0);
        Check.same("slower ones", x.step(300, 2), 2);
        Check.row("behind five", cellOf(x, 5), 1000, 0, 2968, 32);
        Check.row("anew behind five", anewOf(x, 5), 1000, 0, 2968, 32);
    }

    private static void stepLimits() {
        ShockTube x = new ShockTube();
        Check.fails("t 0", Check.IAE, () -> x.step(0, 1));
        Check.fails("t 401", Check.IAE, () -> x.step(401, 1));
        Check.fails("many 0", Check.IAE, () -> x.step(1, 0));
        Check.fails("many 51", Check.IAE, () -> x.step(1, 51));
        for (int i = 0; i < 5; i++) {
            Check.same("50 steps", x.step(1, 50), 50);
        }
        Check.same("49 steps", x.step(1, 49), 49);
        Check.fails("2 above 299", Check.ISE, () -> x.step(1, 2));
        Check.same("the steps stay", x.steps(), 299);
        Check.same("the 300th", x.step(1, 1), 1);
        Check.fails("the 301st", Check.ISE, () -> x.step(1, 1));
        Check.fails("the argument first", Check.IAE, () -> x.step(0, 1));
        x.shape(8, 1, 1);
        Check.same("anew from shape on", x.step(400, 50), 50);
    }

    private static void tube() {
        ShockTube x = new ShockTube();
        x.cell(0, 1000000, 10000000, 1000000000, 1000000);
        Check.same("pressure", x.tube(0, 4), 380000000);
        Check.same("speed", x.tube(0, 5), 10000);
        Check.same("sound", x.tube(0, 6), 23065);
        Check.same("temperature", x.tube(0, 7), 38000);
        x.cell(1, 3, -1, 10, 0);
        Check.same("speed, rounded down", x.tube(1, 5), -334);
        x.cell(2, 1, 0, 1000000000, 0);
        Check.same("temperature, the greatest int", x.tube(2, 7), Integer.MAX_VALUE);
        Check.same("sound of it", x.tube(2, 6), 23664319);
        x.gas(ShockTube.HELIUM);
        Check.same("pressure of it", x.tube(2, 4), 666666666);
        Check.same("sound of it in HELIUM", x.tube(2, 6), 33333333);
        Check.fails("cell -1", Check.IOB, () -> x.tube(-1, 0));
        Check.fails("cell 8", Check.IOB, () -> x.tube(8, 9));
        Check.fails("what -1", Check.IAE, () -> x.tube(0, -1));
        Check.fails("what 8", Check.IAE, () -> x.tube(0, 8));
    }

    private static void anew() {
        ShockTube x = new ShockTube();
        x.shape(5, ShockTube.WALL, ShockTube.OPEN);
        x.gas(ShockTube.HELIUM);
        x.cell(0, 1500, 100, 6000, 900);
        x.ignition(100, 20, 15);
        x.step(40, 7);
        sameAnew("behind steps", x);
        x.gas(ShockTube.STEAM);
        x.cell(3, 800, -90, 3000, 400);
        x.step(30, 5);
        x.ignition(0, 0, 0);
        sameAnew("behind more", x);
        x.step(400, 50);
        x.step(20, 3);
        sameAnew("behind one that may be refused", x);
        Check.fails("cell -1", Check.IOB, () -> x.anew(-1, 0));
        Check.fails("cell 5", Check.IOB, () -> x.anew(5, 9));
        Check.fails("what -1", Check.IAE, () -> x.anew(0, -1));
        Check.fails("what 4", Check.IAE, () -> x.anew(0, 4));
    }

    private static void sameAnew(String when, ShockTube x) {
        for (int i = 0; i < x.many(); i++) {
            Check.row("anew " + i + " " + when, anewOf(x, i), cellOf(x, i));
        }
    }

    private static void probe() {
        ShockTube x = new ShockTube();
        for (int i = 0; i < 8; i++) {
            x.cell(i, 1000, 0, 2000, 100);
        }
        Check.same("nothing without steps", x.probe(0, 0) + x.probe(0, 1), 0);
        x.step(10, 2);
        Check.same("the first of the same", x.probe(3, 1), 1);
        Check.same("at first", x.probe(3, 0), 800);
        x.ignition(0, 50, 10);
        x.step(10, 2);
        x.ignition(0, 0, 0);
        x.step(10, 3);
        Check.same("behind burning", x.probe(3, 0), 1100);
        Check.same("the step", x.probe(3, 1), 4);
        x.cell(3, 1000, 0, 9000, 0);
        Check.same("what is told is no step", x.probe(3, 0), 1100);
        x.cell(3, 1000, 0, 1, 0);
        x.step(1, 1);
        Check.same("a lower one does not count", x.probe(3, 1), 4);
        Check.fails("cell -1", Check.IOB, () -> x.probe(-1, 0));
        Check.fails("cell 8", Check.IOB, () -> x.probe(8, 2));
        Check.fails("what -1", Check.IAE, () -> x.probe(0, -1));
        Check.fails("what 2", Check.IAE, () -> x.probe(0, 2));
        ShockTube y = allAlike(1, 1, 1000, 0, 0);
        Check.same("steps without pressure", y.step(100, 3), 3);
        Check.same("never above 0", y.probe(1, 0) + y.probe(1, 1), 0);
    }

    private static void came() {
        ShockTube x = allAlike(0, 0, 1000, 100, 3000);
        x.step(100, 2);
        Check.row("as much comes as goes", cameOf(x), 0, 0, 0, 0, 0, 0);
        x.cell(1, 1000, 0, 3000, 0);
        x.step(100, 1);
        Check.same("more comes", x.came(0), 10);
        Check.fails("what -1", Check.IAE, () -> x.came(-1));
        Check.fails("what 6", Check.IAE, () -> x.came(6));
    }

    private static void isKept() {
        ShockTube x = new ShockTube();
        x.shape(6, ShockTube.OPEN, ShockTube.WALL);
        for (int i = 0; i < 6; i++) {
            x.cell(i, 900 + 40 * i, 30 * i - 70, 4000 + 300 * i, 100 * i);
        }
        x.ignition(150, 30, 9);
        for (int i = 0; i < 6; i++) {
            x.step(20 + 5 * i, 4);
            isAllKept("behind steps", x);
            x.cell(i, 1000, i, 5000, 300);
            isAllKept("behind a cell", x);
        }
        Check.same("something burnt", x.came(5) > 0 ? 1 : 0, 1);
        Check.same("something came", x.came(0) != 0 ? 1 : 0, 1);
        Check.fails("what -1", Check.IAE, () -> x.isKept(-1));
        Check.fails("what 4", Check.IAE, () -> x.isKept(4));
    }

    /** What they answer is free, but none throws what the document does not tell. */
    private static void moreCallsThanPromised() {
        ShockTube x = new ShockTube();
        for (int i = 0; i < 511; i++) {
            x.gas(i % 3);
        }
        Check.same("anew in the 512th", x.anew(0, 2), 2000);
        x.shape(8, 1, 1);
        for (int i = 0; i < 600; i++) {
            x.cell(i % 8, 900 + i, 0, 3000, 0);
        }
        x.keep(0);
        x.step(1, 1);
        x.goBack(0);
        x.anew(7, 0);
        Check.same("the tube is still the same", x.tube(7, 0), 900 + 599);
    }

    private static void manyAndSteps() {
        ShockTube x = new ShockTube();
        x.shape(17, 0, 1);
        Check.same("many", x.many(), 17);
        x.step(10, 4);
        x.step(10, 3);
        Check.same("steps", x.steps(), 7);
        Check.fails("a refused one", Check.IAE, () -> x.step(0, 1));
        Check.same("steps stay", x.steps(), 7);
    }
}
