/** A call of the class under test by its name. */
final class Caller {
    private Caller() {
    }

    static long call(SweptGates x, String name, int... v) {
        switch (name) {
            case "inputs": return x.inputs(v[0]);
            case "gate": return x.gate(v[0], v[1]);
            case "xor": return x.xor(v[0], v[1]);
            case "mux": return x.mux(v[0], v[1], v[2]);
            case "out": return x.out(v[0], v[1]);
            case "pattern": return x.pattern(v[0]);
            case "settles": return x.settles();
            case "of": return x.of(v[0], v[1]);
            case "table": return x.table(v[0]);
            case "at": return x.at(v[0], v[1]);
            case "depth": return x.depth(v[0]);
            case "cone": return x.cone(v[0]);
            case "outs": return x.outs(v[0], v[1]);
            case "count": return x.count(v[0]);
            case "sign": return x.sign(v[0]);
            case "form": return x.form(v[0]);
            case "lines": return x.lines(v[0], v[1]);
            case "swept": return x.swept(v[0]);
            case "row": return x.row(v[0]);
            case "alike": return x.alike(v[0]);
            case "witness": return x.witness(v[0]);
            case "verdict": return x.verdict();
            case "type": return x.type(v[0]);
            case "clear": return x.clear();
            case "does": return x.does();
            case "back": return x.back();
            case "told": return x.told(v[0]);
            case "digest": return x.digest();
            default: throw new IllegalArgumentException(name);
        }
    }
}
