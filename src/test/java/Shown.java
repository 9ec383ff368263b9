import java.util.Arrays;

/** All that the calls of an object show, in one row; nothing is changed by looking. */
final class Shown {
    private final ShockTube x;
    private long[] row = new long[256];
    private int at;

    private Shown(ShockTube x) {
        this.x = x;
    }

    static long[] all(ShockTube x) {
        Shown shown = new Shown(x);
        shown.tube();
        shown.fronts();
        shown.pipe();
        return Arrays.copyOf(shown.row, shown.at);
    }

    private void add(long answer) {
        if (at == row.length) {
            row = Arrays.copyOf(row, 2 * at);
        }
        row[at++] = answer;
    }

    private void tube() {
        int many = x.many();
        add(many);
        add(x.steps());
        for (int what = 0; what < 6; what++) {
            add(x.came(what));
        }
        for (int what = 0; what < 4; what++) {
            add(x.isKept(what) ? 1 : 0);
        }
        for (int cell = 0; cell < many; cell++) {
            for (int what = 0; what < 8; what++) {
                add(x.tube(cell, what));
            }
            for (int what = 0; what < 4; what++) {
                add(x.anew(cell, what));
            }
            add(x.probe(cell, 0));
            add(x.probe(cell, 1));
        }
    }

    private void fronts() {
        int fronts = x.fronts();
        add(fronts);
        for (int front = 0; front < fronts; front++) {
            for (int what = 0; what < 4; what++) {
                add(x.ofFront(front, what));
            }
        }
    }

    /** The opening and the head of the reservoir are only told by setting them, so they are set back. */
    private void pipe() {
        int nodes = nodes();
        for (int node = 0; node < nodes; node++) {
            for (int what = 0; what < 4; what++) {
                add(x.node(node, what));
            }
        }
        if (nodes > 0) {
            int opening = x.valve(0);
            x.valve(opening);
            add(opening);
            int head = x.reservoir(0);
            x.reservoir(head);
            add(head);
        }
    }

    private int nodes() {
        int nodes = 0;
        try {
            while (nodes < 21) {
                x.node(nodes, 0);
                nodes++;
            }
        } catch (IndexOutOfBoundsException e) {
            return nodes;
        }
        return nodes;
    }
}
