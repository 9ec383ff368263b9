/** Promises 18 to 22, with numbers found by hand. */
public final class PipeTest {
    public static void main(String[] args) {
        pipe();
        pipeWrong();
        ticks();
        friction();
        towardZero();
        valve();
        valveBelowZero();
        reservoir();
        cavityAtTheValve();
        cavityThatDoesNotBegin();
        cavityBetween();
        cavityWithWhatGoes();
        flowRefused();
        headToTheUnit();
        flowToTheUnit();
        flowWrong();
        node();
        hugeCavity();
        Check.end("PipeTest");
    }

    private static ShockTube with(int reaches, int impedance, int friction, int loss, int head, int flow) {
        ShockTube x = new ShockTube();
        x.pipe(reaches, impedance, friction, loss, head, flow);
        return x;
    }

    /** Head, flow, cavity and greatest head. */
    private static void node(String when, ShockTube x, int node, long... want) {
        long[] got = {x.node(node, 0), x.node(node, 1), x.node(node, 2), x.node(node, 3)};
        Check.row(when + ": node " + node, got, want);
    }

    private static void pipe() {
        ShockTube x = with(20, 50, 20, 50, 2000, 100);
        for (int i = 0; i <= 20; i++) {
            node("the most", x, i, 2000, 100, 0, 2000);
        }
        Check.fails("node 21", Check.IOB, () -> x.node(21, 0));
        Check.same("open by 100", x.valve(40), 100);
        x.flow(2);
        x.pipe(1, 1, 0, 1, 0, -100);
        node("the least", x, 0, 0, -100, 0, 0);
        node("the least", x, 1, 0, -100, 0, 0);
        Check.fails("node 2", Check.IOB, () -> x.node(2, 0));
        Check.same("open by 100 again", x.valve(40), 100);
        Check.same("its reservoir", x.reservoir(5), 0);
    }

    private static void pipeWrong() {
        ShockTube x = with(1, 2, 3, 4, 5, 6);
        x.valve(7);
        Check.fails("reaches 0", Check.IAE, () -> x.pipe(0, 1, 0, 1, 0, 0));
        Check.fails("reaches 21", Check.IAE, () -> x.pipe(21, 1, 0, 1, 0, 0));
        Check.fails("impedance 0", Check.IAE, () -> x.pipe(1, 0, 0, 1, 0, 0));
        Check.fails("impedance 51", Check.IAE, () -> x.pipe(1, 51, 0, 1, 0, 0));
        Check.fails("friction -1", Check.IAE, () -> x.pipe(1, 1, -1, 1, 0, 0));
        Check.fails("friction 21", Check.IAE, () -> x.pipe(1, 1, 21, 1, 0, 0));
        Check.fails("loss 0", Check.IAE, () -> x.pipe(1, 1, 0, 0, 0, 0));
        Check.fails("loss 51", Check.IAE, () -> x.pipe(1, 1, 0, 51, 0, 0));
        Check.fails("head -1", Check.IAE, () -> x.pipe(1, 1, 0, 1, -1, 0));
        Check.fails("head 2001", Check.IAE, () -> x.pipe(1, 1, 0, 1, 2001, 0));
        Check.fails("flow -101", Check.IAE, () -> x.pipe(1, 1, 0, 1, 0, -101));
        Check.fails("flow 101", Check.IAE, () -> x.pipe(1, 1, 0, 1, 0, 101));
        node("it stays", x, 1, 5, 6, 0, 5);
        Check.same("the valve stays", x.valve(7), 7);
        Check.same("the reservoir stays", x.reservoir(5), 5);
    }

    /** C is 350 at the valve: 35000 by 1200 is 29; then D is 60 less 290 between, -230. */
    private static void ticks() {
        ShockTube x = with(2, 10, 0, 2, 300, 5);
        Check.same("one tick", x.flow(1), 1);
        node("behind one", x, 0, 300, 5, 0, 300);
        node("behind one", x, 1, 300, 5, 0, 300);
        node("behind one", x, 2, 60, 29, 0, 300);
        Check.same("one more", x.flow(1), 1);
        node("behind two", x, 0, 300, 5, 0, 300);
        node("behind two", x, 1, 60, 29, 0, 300);
        node("behind two", x, 2, 60, 29, 0, 300);
        Check.same("the third", x.flow(1), 1);
        node("behind three", x, 0, 300, 53, 0, 300);
    }

    /** 3 times 70 times 70 by 100 is 147, and with the sign turned -147. */
    private static void friction() {
        ShockTube x = with(2, 7, 3, 2, 300, 70);
        x.flow(1);
        node("to the right", x, 0, 300, 49, 0, 300);
        node("to the right", x, 1, 300, 49, 0, 300);
        node("to the right", x, 2, 146, 71, 0, 300);
        x = with(2, 7, 3, 2, 2000, -70);
        x.flow(1);
        node("to the left", x, 0, 2000, -49, 0, 2000);
        node("to the left", x, 1, 2000, -49, 0, 2000);
    }

    /** Friction 1 times 15 times 15 by 100 is 2.25: toward 0 both ways. */
    private static void towardZero() {
        ShockTube x = with(1, 10, 1, 50, 1000, -15);
        x.flow(1);
        node("D is 1148: -148 by 10", x, 0, 1000, -14, 0, 1000);
        node("C is 852: 85200 by 6000", x, 1, 712, 14, 0, 1000);
        x = with(2, 3, 0, 50, 1001, 0);
        x.valve(0);
        x.reservoir(1000);
        x.flow(2);
        node("half of 2001, rounded down", x, 1, 1000, 0, 0, 1001);
        x.reservoir(900);
        x.flow(1);
        node("101 by 3, toward 0", x, 0, 900, -33, 0, 1001);
    }

    private static void valve() {
        ShockTube x = new ShockTube();
        Check.fails("without a pipe", Check.ISE, () -> x.valve(1));
        Check.fails("the argument first", Check.IAE, () -> x.valve(101));
        x.pipe(1, 10, 0, 3, 500, 20);
        Check.same("100 before", x.valve(0), 100);
        node("nothing yet", x, 1, 500, 20, 0, 500);
        x.flow(1);
        node("closed", x, 1, 700, 0, 0, 700);
        Check.same("0 before", x.valve(50), 0);
        x.flow(1);
        node("half open: 35000 by 800", x, 1, 270, 43, 0, 700);
        Check.fails("opening -1", Check.IAE, () -> x.valve(-1));
        Check.fails("opening 101", Check.IAE, () -> x.valve(101));
        Check.same("50 before", x.valve(100), 50);
    }

    private static void valveBelowZero() {
        ShockTube x = with(1, 10, 0, 1, 5, -6);
        x.flow(1);
        node("C is -55", x, 1, -55, 0, 0, 5);
        x = with(1, 5, 0, 1, 5, -1);
        x.flow(1);
        node("C is 0", x, 1, 0, 0, 0, 5);
    }

    private static void reservoir() {
        ShockTube x = new ShockTube();
        Check.fails("without a pipe", Check.ISE, () -> x.reservoir(1));
        Check.fails("the argument first", Check.IAE, () -> x.reservoir(2001));
        x.pipe(3, 10, 0, 3, 500, 0);
        Check.same("500 before", x.reservoir(2000), 500);
        node("from the next tick on", x, 0, 500, 0, 0, 500);
        Check.same("2000 before", x.reservoir(720), 2000);
        x.flow(1);
        node("in the next tick", x, 0, 720, 22, 0, 720);
        node("not yet there", x, 1, 500, 0, 0, 500);
        x.flow(1);
        node("there", x, 1, 720, 22, 0, 720);
        Check.fails("head -1", Check.IAE, () -> x.reservoir(-1));
        Check.fails("head 2001", Check.IAE, () -> x.reservoir(2001));
        Check.same("it stays", x.reservoir(0), 720);
    }

    /** C is -200 twice, so that 10 a tick go without any to come; then C is 100, and 20 come. */
    private static void cavityAtTheValve() {
        ShockTube x = with(1, 10, 0, 1, 0, -20);
        x.flow(1);
        node("it opens", x, 1, -100, 0, 10, 0);
        node("the reservoir", x, 0, 0, -20, 0, 0);
        x.flow(1);
        node("it grows", x, 1, -100, 0, 20, 0);
        node("the reservoir then", x, 0, 0, 10, 0, 0);
        x.flow(1);
        node("it collapses", x, 1, 10, 9, 0, 10);
        x = with(1, 10, 0, 1, 0, -20);
        x.flow(2);
        x.reservoir(0);
        x.valve(0);
        x.flow(1);
        node("it collapses behind a closed valve", x, 1, 100, 0, 0, 100);
    }

    /** C is -105: -5 by 10 is 0 toward 0, so nothing goes, and the head is as without; at -110 it begins. */
    private static void cavityThatDoesNotBegin() {
        ShockTube x = with(1, 10, 0, 1, 5, -11);
        x.flow(1);
        node("none", x, 1, -105, 0, 0, 5);
        x = with(1, 10, 0, 1, 0, -11);
        x.flow(1);
        node("one", x, 1, -100, 0, 1, 0);
        x = with(1, 10, 0, 1, 0, -10);
        x.flow(1);
        node("-100 is not below", x, 1, -100, 0, 0, 0);
    }

    /** As long as there is one its head stays, also when the head would be higher. */
    private static void cavityBetween() {
        ShockTube x = with(2, 10, 0, 50, 2000, 100);
        x.valve(0);
        x.reservoir(0);
        x.flow(1);
        node("the reservoir", x, 0, 0, -100, 0, 2000);
        node("between, not yet", x, 1, 2000, 100, 0, 2000);
        x.valve(100);
        x.flow(1);
        node("between, C -1000 and D 3000", x, 1, 1000, -200, 0, 2000);
        x = with(2, 1, 0, 1, 100, -100);
        x.reservoir(0);
        x.flow(1);
        node("between", x, 1, 100, -100, 0, 100);
        x.pipe(2, 10, 0, 1, 0, -30);
        x.flow(1);
        node("the valve opens a cavity", x, 2, -100, 0, 20, 0);
        x.flow(1);
        node("between, C -300 and D -100", x, 1, -100, 0, 20, 0);
        node("the valve still", x, 2, -100, 0, 40, 0);
        x.flow(1);
        node("the reservoir pushes", x, 0, 0, 10, 0, 0);
        node("between, C -300 again", x, 1, -100, 0, 40, 0);
        x.flow(1);
        node("C is 100: 20 come", x, 1, -100, 0, 20, 0);
        x.flow(1);
        node("20 more come: it collapses", x, 1, 0, 10, 0, 0);
    }

    /** Between, C is -500 and D -400: 30 go and -40 come; then C is 400 and D -160: 6 go and 50 come. */
    private static void cavityWithWhatGoes() {
        ShockTube x = with(2, 10, 0, 1, 500, 0);
        x.reservoir(0);
        x.flow(1);
        node("the valve pulls", x, 2, 50, 45, 0, 500);
        x.flow(1);
        node("it opens", x, 1, -100, 30, 70, 500);
        node("the reservoir", x, 0, 0, -50, 0, 500);
        x.flow(1);
        node("it grows", x, 1, -100, 30, 140, 500);
        node("the reservoir then", x, 0, 0, 40, 0, 500);
        node("the valve then", x, 2, 20, 18, 0, 500);
        x.flow(1);
        node("it becomes less", x, 1, -100, 6, 96, 500);
        x.pipe(2, 10, 0, 1, 500, 0);
        node("a new pipe has none", x, 1, 500, 0, 0, 500);
        x.flow(1);
        node("and is as told without", x, 1, 500, 0, 0, 500);
    }

    /** The reservoir's flow is -2238 behind the first tick, so that C is 999490 and its head. */
    private static void headToTheUnit() {
        ShockTube x = with(1, 1, 20, 1, 848, 100);
        x.valve(0);
        x.reservoir(510);
        Check.same("1000000", x.flow(2), 2);
        node("at the most", x, 1, 1000000, 0, 0, 1000000);
        x = with(1, 1, 20, 1, 849, 100);
        x.valve(0);
        x.reservoir(511);
        Check.same("1000001", x.flow(2), 1);
        node("it stays", x, 1, -100, 0, 951, 849);
    }

    private static void flowToTheUnit() {
        ShockTube x = with(1, 1, 20, 1, 101, 100);
        x.reservoir(1001);
        Check.same("C is 200001", x.flow(2), 2);
        node("100000", x, 1, 100001, 100000, 0, 100001);
        x = with(1, 1, 20, 1, 102, 100);
        x.reservoir(1002);
        Check.same("C is 200002", x.flow(2), 1);
        x = with(1, 1, 20, 1, 0, 100);
        x.valve(0);
        x.reservoir(1190);
        Check.same("two ticks", x.flow(2), 2);
        node("closed", x, 1, 101300, 0, 0, 101300);
        x.reservoir(1299);
        Check.same("-100001", x.flow(1), 0);
        node("the reservoir stays", x, 0, 1190, 1290, 0, 1190);
        x.reservoir(1300);
        Check.same("-100000", x.flow(1), 1);
        node("the reservoir", x, 0, 1300, -100000, 0, 1300);
        node("what comes into a cavity is no flow of a node", x, 1, -100, 0, 330240, 101300);
    }

    /** Friction of 20 blows it up: the second tick would need a flow of -180500 at the reservoir. */
    private static void flowRefused() {
        ShockTube x = with(1, 1, 20, 1, 0, -100);
        Check.same("one of five", x.flow(5), 1);
        node("the reservoir stays", x, 0, 0, 1900, 0, 0);
        node("the valve stays", x, 1, 950, 950, 0, 950);
        Check.same("and none", x.flow(1), 0);
        node("nothing new", x, 1, 950, 950, 0, 950);
    }

    private static void flowWrong() {
        ShockTube x = new ShockTube();
        Check.fails("without a pipe", Check.ISE, () -> x.flow(1));
        Check.fails("the argument first", Check.IAE, () -> x.flow(0));
        x.pipe(1, 10, 0, 1, 100, 0);
        Check.fails("0 ticks", Check.IAE, () -> x.flow(0));
        Check.fails("101 ticks", Check.IAE, () -> x.flow(101));
        node("it stays", x, 1, 100, 0, 0, 100);
        Check.same("100 ticks", x.flow(100), 100);
    }

    private static void node() {
        ShockTube x = new ShockTube();
        Check.fails("without a pipe", Check.IOB, () -> x.node(0, 0));
        Check.fails("without a pipe, and wrong", Check.IOB, () -> x.node(0, 4));
        x.pipe(4, 10, 0, 1, 100, 0);
        node("the last one", x, 4, 100, 0, 0, 100);
        Check.fails("node -1", Check.IOB, () -> x.node(-1, 0));
        Check.fails("node 5", Check.IOB, () -> x.node(5, 4));
        Check.fails("what -1", Check.IAE, () -> x.node(0, -1));
        Check.fails("what 4", Check.IAE, () -> x.node(0, 4));
    }

    /** With the valve closed and 2100 that flow back, C is -877900 in each tick. */
    private static void hugeCavity() {
        ShockTube x = with(1, 1, 20, 44, 1612, 0);
        x.valve(0);
        x.reservoir(1941);
        x.flow(3);
        x.reservoir(2000);
        x.flow(100);
        int before = x.node(1, 2);
        x.flow(1);
        node("the reservoir", x, 0, 2000, 2100, 0, 2000);
        Check.same("877800 in a tick", x.node(1, 2) - before, 877800);
        for (int i = 0; i < 30; i++) {
            Check.same("100 ticks", x.flow(100), 100);
        }
        Check.same("at most the greatest int", x.node(1, 2), Integer.MAX_VALUE);
        x.keep(0);
        x.goBack(0);
        Check.same("and on", x.flow(100), 100);
        Check.same("the head stays", x.node(1, 0), -100);
    }
}
