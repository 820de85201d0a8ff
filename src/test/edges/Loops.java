/** Loops that several tests ask of. */
final class Loops {
    private Loops() {
    }

    /** ADDS of the TURN with itself, so many: no NEED, each one use of UNIT 0. */
    static OverlapMill adds(int many) {
        OverlapMill x = new OverlapMill();
        for (int i = 0; i < many; i++) {
            x.reckon(Edge.ADD, Edge.TURN, 0, Edge.TURN, 0);
        }
        return x;
    }

    /** One OP of a KIND, without a SOURCE that is an OP. */
    static OverlapMill single(int kind) {
        OverlapMill x = new OverlapMill();
        if (kind < Edge.LOAD) {
            x.reckon(kind, Edge.TURN, 0, Edge.TURN, 0);
        } else if (kind == Edge.LOAD) {
            x.load(0, 0);
        } else {
            x.store(Edge.TURN, 0, 0, 0);
        }
        return x;
    }

    /** An ADD of what it came to so many TURNS before: a ring of one NEED with DELAY latency. */
    static OverlapMill circle(int latency, int distance) {
        OverlapMill x = new OverlapMill();
        x.kind(Edge.ADD, 0, latency, 1);
        x.reckon(Edge.ADD, 0, distance, Edge.NUMBER, 1);
        return x;
    }

    /** row 1 = 3 times row 0: TIMES 0, 2, 5 for d 2; LATENCIES 2, 3, 1. */
    static OverlapMill scale() {
        OverlapMill x = new OverlapMill();
        x.load(0, 0);
        x.reckon(Edge.MULTIPLY, 0, 0, Edge.NUMBER, 3);
        x.store(1, 0, 1, 0);
        return x;
    }

    /** x = 2 times y of the TURN before, y = x and 5: a ring with DELAYS 4, DISTANCES 1. */
    static OverlapMill growth() {
        OverlapMill x = new OverlapMill();
        x.reckon(Edge.MULTIPLY, 1, 1, Edge.NUMBER, 2);
        x.reckon(Edge.ADD, 0, 0, Edge.NUMBER, 5);
        return x;
    }

    /** A LOAD and an ADD of it and of that two TURNS before: for d 1 its LIFE is 2, 3, 4. */
    static OverlapMill longLife() {
        OverlapMill x = new OverlapMill();
        x.load(0, 0);
        x.reckon(Edge.ADD, 0, 2, 0, 0);
        return x;
    }

    /** An ADD and one of it so many TURNS behind, side by side: d 1 fits. */
    static OverlapMill behind(int distance) {
        OverlapMill x = new OverlapMill();
        x.unit(0, 3);
        x.reckon(Edge.ADD, Edge.TURN, 0, Edge.NUMBER, 10);
        x.reckon(Edge.ADD, 0, distance, Edge.NUMBER, 0);
        return x;
    }

    /** Its one OP is its own SOURCE in the same TURN. */
    static OverlapMill unsound() {
        OverlapMill x = new OverlapMill();
        x.reckon(Edge.ADD, 0, 0, Edge.TURN, 0);
        return x;
    }
}
