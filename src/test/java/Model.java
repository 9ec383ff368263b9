import java.math.BigInteger;
import java.util.ArrayList;
import java.util.List;

/**
 * The document once more, written apart from the class: slow, with numbers of any length, with
 * objects in lists. What it keeps is copied whole.
 */
final class Model {
    static final int[][] PRESSURE = {{2, 5}, {2, 3}, {1, 3}};
    static final int[][] SOUND = {{7, 5}, {5, 3}, {4, 3}};

    static final class Cell {
        BigInteger m;
        BigInteger p;
        BigInteger e;
        BigInteger f;

        Cell(BigInteger m, BigInteger p, BigInteger e, BigInteger f) {
            this.m = m;
            this.p = p;
            this.e = e;
            this.f = f;
        }

        static Cell of(long m, long p, long e, long f) {
            return new Cell(big(m), big(p), big(e), big(f));
        }

        BigInteger[] all() {
            return new BigInteger[] {m, p, e, f};
        }

        Cell turned() {
            return new Cell(m, p.negate(), e, f);
        }
    }

    static final class Front {
        int kind;
        int place;
        int before;
        int speed;
        int strength;

        Front(int kind, int place, int speed, int strength) {
            this.kind = kind;
            this.place = place;
            this.before = place;
            this.speed = speed;
            this.strength = strength;
        }
    }

    static final class Node {
        long head;
        long flow;
        long cavity;
        long greatest;
    }

    static final class All {
        List<Cell> cells = new ArrayList<>();
        int[] ends = {1, 1};
        int gas = 0;
        int[] ignition = {100000, 0, 0};
        int steps = 0;
        BigInteger[] came = zeros(6);
        BigInteger[] probes = zeros(32);
        int[] probeSteps = new int[32];
        List<Front> fronts = new ArrayList<>();
        List<Node> nodes = new ArrayList<>();
        int[] pipe = new int[3];
        int opening;
        int reservoir;

        All copy() {
            All a = new All();
            for (Cell c : cells) {
                a.cells.add(new Cell(c.m, c.p, c.e, c.f));
            }
            a.ends = ends.clone();
            a.gas = gas;
            a.ignition = ignition.clone();
            a.steps = steps;
            a.came = came.clone();
            a.probes = probes.clone();
            a.probeSteps = probeSteps.clone();
            for (Front f : fronts) {
                a.fronts.add(new Front(f.kind, f.place, f.speed, f.strength));
            }
            for (Node n : nodes) {
                a.nodes.add(copyOf(n));
            }
            a.pipe = pipe.clone();
            a.opening = opening;
            a.reservoir = reservoir;
            return a;
        }
    }

    All now = new All();
    final All[] kept = new All[4];

    Model() {
        shape(8, 1, 1);
    }

    static BigInteger big(long x) {
        return BigInteger.valueOf(x);
    }

    static BigInteger[] zeros(int n) {
        BigInteger[] row = new BigInteger[n];
        java.util.Arrays.fill(row, BigInteger.ZERO);
        return row;
    }

    static BigInteger down(BigInteger a, BigInteger b) {
        BigInteger[] parts = a.divideAndRemainder(b);
        return parts[1].signum() < 0 ? parts[0].subtract(BigInteger.ONE) : parts[0];
    }

    static BigInteger down(BigInteger a, long b) {
        return down(a, big(b));
    }

    static Node copyOf(Node n) {
        Node c = new Node();
        c.head = n.head;
        c.flow = n.flow;
        c.cavity = n.cavity;
        c.greatest = n.greatest;
        return c;
    }

    static void argument(boolean isRight) {
        if (!isRight) {
            throw new IllegalArgumentException();
        }
    }

    static void state(boolean isRight) {
        if (!isRight) {
            throw new IllegalStateException();
        }
    }

    static void index(int i, int size) {
        if (i < 0 || i >= size) {
            throw new IndexOutOfBoundsException();
        }
    }

    static boolean in(int x, int low, int high) {
        return low <= x && x <= high;
    }

    // ---- the tube

    void shape(int cells, int left, int right) {
        argument(in(cells, 2, 32) && in(left, 0, 1) && in(right, 0, 1));
        now.cells.clear();
        for (int i = 0; i < cells; i++) {
            now.cells.add(Cell.of(1000, 0, 2000, 0));
        }
        now.ends = new int[] {left, right};
        now.steps = 0;
        now.came = zeros(6);
        now.probes = zeros(32);
        now.probeSteps = new int[32];
    }

    void gas(int gas) {
        argument(in(gas, 0, 2));
        now.gas = gas;
    }

    void cell(int cell, int m, int p, int e, int f) {
        index(cell, now.cells.size());
        argument(in(m, 1, 1000000) && in(p, -10000000, 10000000) && in(e, 0, 1000000000) && in(f, 0, m));
        Cell c = Cell.of(m, p, e, f);
        state(within(c).signum() >= 0);
        now.cells.set(cell, c);
    }

    void ignition(int temperature, int part, int heat) {
        argument(in(temperature, 0, 100000) && in(part, 0, 100) && in(heat, 0, 1000));
        now.ignition = new int[] {temperature, part, heat};
    }

    static BigInteger within(Cell c) {
        return c.e.subtract(down(c.p.multiply(c.p), c.m.shiftLeft(1)));
    }

    BigInteger pressure(Cell c) {
        return down(within(c).multiply(big(PRESSURE[now.gas][0])), PRESSURE[now.gas][1]);
    }

    static BigInteger speed(Cell c) {
        return down(c.p.multiply(big(1000)), c.m);
    }

    BigInteger sound(Cell c) {
        BigInteger top = pressure(c).multiply(big(SOUND[now.gas][0])).multiply(big(1000000));
        return down(down(top, c.m), SOUND[now.gas][1]).sqrt();
    }

    BigInteger temperature(Cell c) {
        return down(pressure(c).multiply(big(100)), c.m);
    }

    BigInteger pace(Cell l, Cell r) {
        return speed(l).abs().add(sound(l)).max(speed(r).abs().add(sound(r)));
    }

    static BigInteger goes(int t, BigInteger s, BigInteger q, BigInteger more) {
        return down(big(t).multiply(big(1000).multiply(q).subtract(s.multiply(more))), 2000000);
    }

    BigInteger[] over(Cell l, Cell r, int t, boolean isWall) {
        BigInteger s = pace(l, r);
        BigInteger pressL = down(l.p.multiply(l.p), l.m).add(pressure(l));
        BigInteger pressR = down(r.p.multiply(r.p), r.m).add(pressure(r));
        BigInteger workL = down(l.e.add(pressure(l)).multiply(l.p), l.m);
        BigInteger workR = down(r.e.add(pressure(r)).multiply(r.p), r.m);
        BigInteger momentum = goes(t, s, pressL.add(pressR), r.p.subtract(l.p));
        if (isWall) {
            return new BigInteger[] {big(0), momentum, big(0), big(0)};
        }
        BigInteger mass = goes(t, s, l.p.add(r.p), r.m.subtract(l.m));
        BigInteger energy = goes(t, s, workL.add(workR), r.e.subtract(l.e));
        BigInteger fuel;
        if (mass.signum() > 0) {
            fuel = down(mass.multiply(l.f), l.m).min(l.f);
        } else {
            fuel = down(mass.negate().multiply(r.f), r.m).min(r.f).negate();
        }
        return new BigInteger[] {mass, momentum, energy, fuel};
    }

    static boolean isAllowed(Cell c) {
        return c.m.signum() > 0 && c.m.compareTo(big(1000000)) <= 0 && c.f.signum() >= 0
                && c.f.compareTo(c.m) <= 0 && c.e.compareTo(big(1000000000)) <= 0 && within(c).signum() >= 0;
    }

    boolean stepOnce(int t) {
        int n = now.cells.size();
        List<Cell> row = new ArrayList<>();
        Cell first = now.cells.get(0);
        Cell last = now.cells.get(n - 1);
        row.add(now.ends[0] == 1 ? first.turned() : first);
        row.addAll(now.cells);
        row.add(now.ends[1] == 1 ? last.turned() : last);
        BigInteger[][] goes = new BigInteger[n + 1][];
        for (int b = 0; b <= n; b++) {
            boolean isWall = b == 0 && now.ends[0] == 1 || b == n && now.ends[1] == 1;
            if (big(t).multiply(pace(row.get(b), row.get(b + 1))).compareTo(big(500000)) > 0) {
                return false;
            }
            goes[b] = over(row.get(b), row.get(b + 1), t, isWall);
        }
        List<Cell> next = new ArrayList<>();
        BigInteger burnt = BigInteger.ZERO;
        for (int i = 0; i < n; i++) {
            BigInteger[] a = now.cells.get(i).all();
            for (int k = 0; k < 4; k++) {
                a[k] = a[k].add(goes[i][k]).subtract(goes[i + 1][k]);
            }
            Cell c = new Cell(a[0], a[1], a[2], a[3]);
            if (!isAllowed(c)) {
                return false;
            }
            if (temperature(c).compareTo(big(now.ignition[0])) >= 0) {
                BigInteger gone = down(c.f.multiply(big(now.ignition[1])), 100);
                c.f = c.f.subtract(gone);
                c.e = c.e.add(gone.multiply(big(now.ignition[2])));
                burnt = burnt.add(gone);
            }
            if (!isAllowed(c)) {
                return false;
            }
            next.add(c);
        }
        now.cells = next;
        now.steps++;
        for (int k = 0; k < 4; k++) {
            now.came[k] = now.came[k].add(goes[0][k]).subtract(goes[n][k]);
        }
        now.came[4] = now.came[4].add(burnt.multiply(big(now.ignition[2])));
        now.came[5] = now.came[5].add(burnt);
        for (int i = 0; i < n; i++) {
            BigInteger p = pressure(next.get(i));
            if (p.compareTo(now.probes[i]) > 0) {
                now.probes[i] = p;
                now.probeSteps[i] = now.steps;
            }
        }
        return true;
    }

    int step(int t, int many) {
        argument(in(t, 1, 400) && in(many, 1, 50));
        state(now.steps + many <= 300);
        for (int i = 0; i < many; i++) {
            if (!stepOnce(t)) {
                return i;
            }
        }
        return many;
    }

    int tube(int cell, int what) {
        index(cell, now.cells.size());
        argument(in(what, 0, 7));
        Cell c = now.cells.get(cell);
        BigInteger[] all = {c.m, c.p, c.e, c.f, pressure(c), speed(c), sound(c), temperature(c)};
        return all[what].min(big(Integer.MAX_VALUE)).intValueExact();
    }

    int anew(int cell, int what) {
        index(cell, now.cells.size());
        argument(in(what, 0, 3));
        return tube(cell, what);
    }

    int probe(int cell, int what) {
        index(cell, now.cells.size());
        argument(in(what, 0, 1));
        return what == 0 ? now.probes[cell].intValueExact() : now.probeSteps[cell];
    }

    long came(int what) {
        argument(in(what, 0, 5));
        return now.came[what].longValueExact();
    }

    boolean isKept(int what) {
        argument(in(what, 0, 3));
        return true;
    }

    int many() {
        return now.cells.size();
    }

    int steps() {
        return now.steps;
    }

    // ---- fronts

    int front(int kind, int place, int speed, int strength) {
        argument(in(kind, 0, 2) && in(place, 0, 100000) && in(speed, -900, 900) && in(strength, 1, 900));
        state(now.fronts.size() < 8);
        int at = now.fronts.size();
        while (at > 0 && now.fronts.get(at - 1).place > place) {
            at--;
        }
        now.fronts.add(at, new Front(kind, place, speed, strength));
        return at;
    }

    int tick(int ticks) {
        argument(in(ticks, 1, 100));
        for (int i = 0; i < ticks; i++) {
            tickOnce();
        }
        return now.fronts.size();
    }

    void tickOnce() {
        List<Front> row = new ArrayList<>();
        for (Front f : now.fronts) {
            f.before = f.place;
            f.place += f.speed;
            if (f.place >= 0 && f.place <= 100000) {
                row.add(f);
            } else if (f.kind == 0) {
                f.place = f.place < 0 ? 0 : 100000;
                f.speed = -f.speed;
                f.strength = Math.min(900, f.strength + f.strength / 2);
                row.add(f);
            }
        }
        now.fronts = row;
        int i = 0;
        while (i + 1 < row.size()) {
            Front l = row.get(i);
            Front r = row.get(i + 1);
            if (l.place < r.place || l.place == r.place && l.before >= r.before) {
                i++;
                continue;
            }
            List<Front> then = meet(l, r, row.size());
            int meeting = (l.place + r.place) / 2;
            for (Front f : then) {
                f.place = meeting;
                f.before = meeting;
            }
            row.remove(i);
            row.remove(i);
            row.addAll(i, then);
            i += then.size() - 1;
        }
    }

    static List<Front> meet(Front l, Front r, int size) {
        String kinds = "" + Math.min(l.kind, r.kind) + Math.max(l.kind, r.kind);
        Front low = l.kind <= r.kind ? l : r;
        Front high = low == l ? r : l;
        switch (kinds) {
            case "00":
                return shocks(l, r, size);
            case "01":
                high.speed = Math.max(-900, Math.min(900, high.speed + low.speed / 10));
                low.strength = Math.max(1, 9 * low.strength / 10);
                return list(r, l);
            case "02":
                high.speed = Math.max(-900, Math.min(900, high.speed * 2));
                return list(r, l);
            case "12":
                return list(low);
            default:
                return list(r.strength > l.strength ? r : l);
        }
    }

    static List<Front> shocks(Front l, Front r, int size) {
        boolean isLike = l.speed > 0 && r.speed > 0 || l.speed < 0 && r.speed < 0;
        if (isLike) {
            int sum = l.strength + r.strength;
            int mean = (l.speed * l.strength + r.speed * r.strength) / sum;
            return list(new Front(0, 0, mean, Math.min(900, sum)));
        }
        if (l.strength != r.strength && size < 8) {
            return list(r, new Front(1, 0, (l.speed + r.speed) / 10, Math.abs(l.strength - r.strength)), l);
        }
        return list(r, l);
    }

    static List<Front> list(Front... fronts) {
        return new ArrayList<>(List.of(fronts));
    }

    int fronts() {
        return now.fronts.size();
    }

    int ofFront(int front, int what) {
        index(front, now.fronts.size());
        argument(in(what, 0, 3));
        Front f = now.fronts.get(front);
        return new int[] {f.kind, f.place, f.speed, f.strength}[what];
    }

    // ---- the pipe

    void pipe(int reaches, int impedance, int friction, int loss, int head, int flow) {
        argument(in(reaches, 1, 20) && in(impedance, 1, 50) && in(friction, 0, 20) && in(loss, 1, 50)
                && in(head, 0, 2000) && in(flow, -100, 100));
        now.nodes.clear();
        for (int i = 0; i <= reaches; i++) {
            Node n = new Node();
            n.head = head;
            n.greatest = head;
            n.flow = flow;
            now.nodes.add(n);
        }
        now.pipe = new int[] {impedance, friction, loss};
        now.opening = 100;
        now.reservoir = head;
    }

    int valve(int opening) {
        argument(in(opening, 0, 100));
        state(!now.nodes.isEmpty());
        int before = now.opening;
        now.opening = opening;
        return before;
    }

    int reservoir(int head) {
        argument(in(head, 0, 2000));
        state(!now.nodes.isEmpty());
        int before = now.reservoir;
        now.reservoir = head;
        return before;
    }

    int flow(int ticks) {
        argument(in(ticks, 1, 100));
        state(!now.nodes.isEmpty());
        for (int i = 0; i < ticks; i++) {
            if (!flowOnce()) {
                return i;
            }
        }
        return ticks;
    }

    boolean flowOnce() {
        long b = now.pipe[0];
        long r = now.pipe[1];
        long z = now.pipe[2];
        int last = now.nodes.size() - 1;
        List<Node> next = new ArrayList<>();
        for (int i = 0; i <= last; i++) {
            Node n = copyOf(now.nodes.get(i));
            long c = 0;
            long d = 0;
            if (i > 0) {
                Node l = now.nodes.get(i - 1);
                c = l.head + b * l.flow - r * l.flow * Math.abs(l.flow) / 100;
            }
            if (i < last) {
                Node k = now.nodes.get(i + 1);
                d = k.head - b * k.flow + r * k.flow * Math.abs(k.flow) / 100;
            }
            if (i == 0) {
                n.head = now.reservoir;
                n.flow = (n.head - d) / b;
            } else if (i < last) {
                n.head = Math.floorDiv(c + d, 2L);
                n.flow = (c - d) / (2 * b);
            } else {
                n.flow = c < 0 ? 0 : now.opening * c / (100 * z + now.opening * b);
                n.head = c - b * n.flow;
            }
            if (i > 0 && (n.cavity > 0 || n.head < -100)) {
                long in = (c + 100) / b;
                long out = i == last ? 0 : (-100 - d) / b;
                n.cavity += out - in;
                if (n.cavity > 0) {
                    n.head = -100;
                    n.flow = out;
                } else {
                    n.cavity = 0;
                }
            }
            if (n.head > 1000000 || n.head < -1000000 || n.flow > 100000 || n.flow < -100000) {
                return false;
            }
            n.greatest = Math.max(n.greatest, n.head);
            next.add(n);
        }
        now.nodes = next;
        return true;
    }

    int node(int node, int what) {
        index(node, now.nodes.size());
        argument(in(what, 0, 3));
        Node n = now.nodes.get(node);
        long told = new long[] {n.head, n.flow, n.cavity, n.greatest}[what];
        return (int) Math.min(told, Integer.MAX_VALUE);
    }

    // ---- what is kept

    void keep(int slot) {
        argument(in(slot, 0, 3));
        kept[slot] = now.copy();
    }

    void goBack(int slot) {
        argument(in(slot, 0, 3));
        state(kept[slot] != null);
        now = kept[slot].copy();
    }
}
