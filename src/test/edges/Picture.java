import java.util.ArrayList;
import java.util.List;

/** All that an object answers, as one text. */
final class Picture {
    static final int CHANGES = 26;

    private Picture() {
    }

    static String of(OverlapMill x) {
        StringBuilder all = new StringBuilder();
        for (int what = 0; what < 9; what++) {
            int which = what;
            put(all, () -> x.count(which));
        }
        put(all, () -> x.isSound() ? 1 : 0);
        put(all, () -> x.least());
        put(all, () -> x.quickest());
        put(all, () -> x.rate(false));
        put(all, () -> x.rate(true));
        put(all, () -> x.critical());
        put(all, () -> x.bestFold());
        for (int k = 0; k < 24; k++) {
            int number = k;
            put(all, () -> x.fold(number));
            put(all, () -> x.squeeze(number));
            put(all, () -> x.without(number));
            put(all, () -> x.need(number, number % 4));
            put(all, () -> x.faster(number));
            put(all, () -> x.more(number));
            put(all, () -> x.uses(number));
            put(all, () -> x.plain(number % 2, number, number));
        }
        for (int op = 0; op < 8; op++) {
            for (int what = 0; what < 6; what++) {
                int asked = op;
                int which = what;
                put(all, () -> x.op(asked, which));
            }
        }
        for (int d = 1; d <= 12; d++) {
            all.append("\nd ").append(d).append(": ");
            byStep(all, x, d);
            for (int op = 0; op < 8; op++) {
                byOp(all, x, d, op);
            }
        }
        return all.toString();
    }

    static void byStep(StringBuilder all, OverlapMill x, int d) {
        put(all, () -> x.fits(d) ? 1 : 0);
        put(all, () -> x.moves(d));
        for (int what = 0; what < 7; what++) {
            int which = what;
            put(all, () -> x.plan(d, which));
            put(all, () -> x.cycles(d, 7, which));
        }
        for (int slot = 0; slot < d; slot++) {
            int at = slot;
            put(all, () -> x.ring(at % 3, at, d));
            put(all, () -> x.who(at % 3, at, d));
            put(all, () -> x.alive(at, d));
        }
        put(all, () -> x.code(d, false));
        put(all, () -> x.peel(d, 9, true));
        put(all, () -> x.turning(d));
        put(all, () -> x.idle(d % 3, d));
        put(all, () -> x.holes(d, 5));
        put(all, () -> x.late(d, 5, 2, 3));
        put(all, () -> x.pays(d));
        put(all, () -> x.run(1, d, d, 40));
    }

    static void byOp(StringBuilder all, OverlapMill x, int d, int op) {
        put(all, () -> x.time(op, d));
        put(all, () -> x.quick(op, d));
        put(all, () -> x.height(op, d));
        put(all, () -> x.far(op, 0, d));
        put(all, () -> x.far(0, op, d));
        put(all, () -> x.bare(op, d, false));
        put(all, () -> x.bare(op, d, true));
        for (int what = 0; what < 6; what++) {
            int which = what;
            put(all, () -> x.life(op, d, which));
        }
        put(all, () -> x.flat(op, 12, d, 9));
        put(all, () -> x.comes(op, d, 6));
        put(all, () -> x.gate(op, 2, d, 6) ? 1 : 0);
        put(all, () -> x.rotary(op, d, 4));
        put(all, () -> x.name(op, 0, 6, d, 4));
    }

    static void put(StringBuilder all, Edge.Call call) {
        all.append(Edge.answerOf(call)).append(' ');
    }

    /** Calls that each throw, whatever the loop is; those that could change something are all there. */
    static List<Runnable> refusedCalls(OverlapMill x) {
        List<Runnable> all = new ArrayList<>();
        int size = x.count(0);
        all.add(() -> x.reckon(4, -1, 0, -1, 0));
        all.add(() -> x.reckon(-1, -1, 0, -1, 0));
        all.add(() -> x.reckon(0, 8, 0, -1, 0));
        all.add(() -> x.reckon(0, -1, 0, 0, 4));
        all.add(() -> x.reckon(0, -2, 100, -1, 0));
        all.add(() -> x.load(2, 0));
        all.add(() -> x.load(0, 8));
        all.add(() -> x.store(-3, 0, 0, 0));
        all.add(() -> x.store(-1, 0, 2, 0));
        all.add(() -> x.store(-1, 0, 0, -1));
        all.add(() -> x.first(size, 5));
        all.add(() -> x.first(-1, 5));
        if (size > 0) {
            all.add(() -> x.first(0, 10000));
            all.add(() -> x.first(size - 1, -10000));
            all.add(() -> x.life(0, 0, 0));
            all.add(() -> x.name(0, -1, 0, 12, 1));
        } else {
            all.add(() -> x.drop());
        }
        if (size == 8) {
            all.add(() -> x.reckon(0, -1, 0, -1, 0));
            all.add(() -> x.load(0, 0));
            all.add(() -> x.store(-1, 0, 0, 0));
        }
        for (int kind = 0; kind < 6; kind++) {
            int told = kind;
            all.add(() -> x.kind(told, 3, 6, 15));
            all.add(() -> x.kind(told, 2, 7, 15));
            all.add(() -> x.kind(told, 2, 6, 16));
            all.add(() -> x.kind(told, 2, 6, 0));
        }
        all.add(() -> x.kind(6, 0, 1, 1));
        all.add(() -> x.unit(0, 4));
        all.add(() -> x.unit(2, 0));
        all.add(() -> x.unit(3, 2));
        all.add(() -> x.op(0, 6));
        all.add(() -> x.need(100, 0));
        all.add(() -> x.far(0, 8, 12));
        all.add(() -> x.fits(13));
        all.add(() -> x.moves(0));
        all.add(() -> x.plan(12, 7));
        all.add(() -> x.cycles(12, 41, 0));
        all.add(() -> x.run(0, 64, 12, 40));
        all.add(() -> x.plain(2, 0, 40));
        all.add(() -> x.late(12, 40, 0, 9));
        all.add(() -> x.squeeze(100));
        all.add(() -> x.faster(6));
        all.add(() -> x.without(100));
        return all;
    }

    /** The change of a number: OPS come and go, KINDS, UNITS and FIRST values are told anew. */
    static void change(OverlapMill x, int number) {
        switch (number) {
            case 0: x.load(0, 1); break;
            case 1: x.reckon(Edge.MULTIPLY, 0, 0, 2, 1); break;
            case 2: x.reckon(Edge.ADD, 1, 0, 2, 1); break;
            case 3: x.store(2, 0, 0, 3); break;
            case 4: x.unit(2, 2); break;
            case 5: x.kind(Edge.MULTIPLY, 0, 4, 5); break;
            case 6: x.first(2, 77); break;
            case 7: x.kind(Edge.LOAD, 2, 5, 1); break;
            case 8: x.drop(); break;
            case 9: x.store(1, 2, 1, 7); break;
            case 10: x.reckon(Edge.LEAST, 5, 1, 4, 2); break;
            case 11: x.reckon(Edge.SUBTRACT, 4, 0, 1, 0); break;
            case 12: x.unit(0, 3); break;
            case 13: x.unit(0, 2); break;
            case 14: x.kind(Edge.STORE, 1, 6, 3); break;
            case 15: x.first(4, -5); break;
            case 16: x.reckon(Edge.ADD, 5, 0, 6, 3); break;
            case 17: x.load(1, 0); break;
            case 18: x.kind(Edge.ADD, 0, 2, 1); break;
            case 19: x.kind(Edge.LOAD, 2, 1, 1); break;
            case 20: x.unit(1, 3); break;
            case 21: x.drop(); break;
            case 22: x.first(1, 9999); break;
            case 23: x.drop(); break;
            case 24: x.kind(Edge.MULTIPLY, 1, 1, 1); break;
            default: x.drop(); break;
        }
    }
}
