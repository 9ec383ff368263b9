/** One way to call a ShockTube or the Model by name. */
final class Face {
    static final String[] NAMES = {"shape", "gas", "cell", "ignition", "step", "tube", "anew", "probe", "came",
        "isKept", "many", "steps", "front", "tick", "fronts", "ofFront", "pipe", "valve", "reservoir", "flow",
        "node", "keep", "goBack"};

    private final ShockTube real;
    private final Model model;

    Face(ShockTube real, Model model) {
        this.real = real;
        this.model = model;
    }

    long call(String name, int[] a) {
        return real != null ? onReal(name, a) : onModel(name, a);
    }

    private long onReal(String name, int[] a) {
        switch (name) {
            case "shape": real.shape(a[0], a[1], a[2]); return 0;
            case "gas": real.gas(a[0]); return 0;
            case "cell": real.cell(a[0], a[1], a[2], a[3], a[4]); return 0;
            case "ignition": real.ignition(a[0], a[1], a[2]); return 0;
            case "step": return real.step(a[0], a[1]);
            case "tube": return real.tube(a[0], a[1]);
            case "anew": return real.anew(a[0], a[1]);
            case "probe": return real.probe(a[0], a[1]);
            case "came": return real.came(a[0]);
            case "isKept": return real.isKept(a[0]) ? 1 : 0;
            case "many": return real.many();
            case "steps": return real.steps();
            case "front": return real.front(a[0], a[1], a[2], a[3]);
            case "tick": return real.tick(a[0]);
            case "fronts": return real.fronts();
            case "ofFront": return real.ofFront(a[0], a[1]);
            case "pipe": real.pipe(a[0], a[1], a[2], a[3], a[4], a[5]); return 0;
            case "valve": return real.valve(a[0]);
            case "reservoir": return real.reservoir(a[0]);
            case "flow": return real.flow(a[0]);
            case "node": return real.node(a[0], a[1]);
            case "keep": real.keep(a[0]); return 0;
            case "goBack": real.goBack(a[0]); return 0;
            default: throw new UnsupportedOperationException(name);
        }
    }

    private long onModel(String name, int[] a) {
        switch (name) {
            case "shape": model.shape(a[0], a[1], a[2]); return 0;
            case "gas": model.gas(a[0]); return 0;
            case "cell": model.cell(a[0], a[1], a[2], a[3], a[4]); return 0;
            case "ignition": model.ignition(a[0], a[1], a[2]); return 0;
            case "step": return model.step(a[0], a[1]);
            case "tube": return model.tube(a[0], a[1]);
            case "anew": return model.anew(a[0], a[1]);
            case "probe": return model.probe(a[0], a[1]);
            case "came": return model.came(a[0]);
            case "isKept": return model.isKept(a[0]) ? 1 : 0;
            case "many": return model.many();
            case "steps": return model.steps();
            case "front": return model.front(a[0], a[1], a[2], a[3]);
            case "tick": return model.tick(a[0]);
            case "fronts": return model.fronts();
            case "ofFront": return model.ofFront(a[0], a[1]);
            case "pipe": model.pipe(a[0], a[1], a[2], a[3], a[4], a[5]); return 0;
            case "valve": return model.valve(a[0]);
            case "reservoir": return model.reservoir(a[0]);
            case "flow": return model.flow(a[0]);
            case "node": return model.node(a[0], a[1]);
            case "keep": model.keep(a[0]); return 0;
            case "goBack": model.goBack(a[0]); return 0;
            default: throw new UnsupportedOperationException(name);
        }
    }
}
