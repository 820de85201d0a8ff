import java.util.NoSuchElementException;

/** One test or more for each promise of the document, worked out by hand. */
public class PromiseTests {
    static final Class<?> INDEX = IndexOutOfBoundsException.class;
    static final Class<?> ARGUMENT = IllegalArgumentException.class;
    static final Class<?> STATE = IllegalStateException.class;
    static final Class<?> ELEMENT = NoSuchElementException.class;
    static final int ADD = 0;
    static final int SUBTRACT = 1;
    static final int MULTIPLY = 2;
    static final int LEAST = 3;
    static final int LOAD = 4;
    static final int STORE = 5;
    static final int TURN = -1;
    static final int NUMBER = -2;

    static int promise;
    static int checks;
    static int wrong;

    interface Call {
        long answer();
    }

    static void due(long want, Call call) {
        checks++;
        String got;
        try {
            got = String.valueOf(call.answer());
        } catch (RuntimeException e) {
            got = e.getClass().getSimpleName();
        }
        report(String.valueOf(want), got);
    }

    static void holds(boolean want, Holds call) {
        due(want ? 1 : 0, () -> call.answer() ? 1 : 0);
    }

    interface Holds {
        boolean answer();
    }

    /** The very class is asked for, not one below it. */
    static void fails(Class<?> want, Call call) {
        checks++;
        String got;
        try {
            got = String.valueOf(call.answer());
        } catch (RuntimeException e) {
            got = e.getClass().getSimpleName();
        }
        report(want.getSimpleName(), got);
    }

    static void report(String want, String got) {
        if (!want.equals(got)) {
            wrong++;
            StackTraceElement[] trace = new Throwable().getStackTrace();
            int line = 0;
            for (StackTraceElement one : trace) {
                if (one.getMethodName().startsWith("promise")) {
                    line = one.getLineNumber();
                    break;
                }
            }
            System.out.println("promise " + promise + ", line " + line + ": answered " + got
                    + ", due is " + want);
        }
    }

    static long did(Runnable call) {
        call.run();
        return 0;
    }

    /** row 1 = 3 times row 0: TIMES 0, 2, 5 for d 2. */
    static OverlapMill scale() {
        OverlapMill x = new OverlapMill();
        x.load(0, 0);
        x.reckon(MULTIPLY, 0, 0, NUMBER, 3);
        x.store(1, 0, 1, 0);
        return x;
    }

    /** x = 2 times y of the turn before; y = x and 5: a ring with DELAYS 4, DISTANCES 1. */
    static OverlapMill growth() {
        OverlapMill x = new OverlapMill();
        x.reckon(MULTIPLY, 1, 1, NUMBER, 2);
        x.reckon(ADD, 0, 0, NUMBER, 5);
        return x;
    }

    /** row 0 at k and 2 = row 0 at k, and 1: a ring through the row, DELAYS 4, DISTANCES 2. */
    static OverlapMill chain() {
        OverlapMill x = new OverlapMill();
        x.load(0, 0);
        x.reckon(ADD, 0, 0, NUMBER, 1);
        x.store(1, 0, 0, 2);
        return x;
    }

    /** A LOAD that is used two TURNS behind: its LIFE is longer than d. */
    static OverlapMill longLife() {
        OverlapMill x = new OverlapMill();
        x.load(0, 0);
        x.reckon(ADD, 0, 2, 0, 0);
        return x;
    }

    /** An ADD without sources, so many times. */
    static OverlapMill adds(int many) {
        OverlapMill x = new OverlapMill();
        for (int i = 0; i < many; i++) {
            x.reckon(ADD, TURN, 0, TURN, 0);
        }
        return x;
    }

    static OverlapMill unsound() {
        OverlapMill x = new OverlapMill();
        x.reckon(ADD, 0, 0, TURN, 0);
        return x;
    }

    public static void main(String[] args) throws Exception {
        for (int i = 1; i <= 50; i++) {
            promise = i;
            int before = checks;
            PromiseTests.class.getDeclaredMethod(String.format("promise%02d", i)).invoke(null);
            if (checks == before) {
                wrong++;
                System.out.println("promise " + i + " has no check");
            }
        }
        System.out.println(checks + " checks, " + wrong + " wrong");
        System.exit(wrong == 0 ? 0 : 1);
    }

    static void promise01() {
        OverlapMill x = new OverlapMill();
        due(-1, () -> OverlapMill.NONE);
        due(0, () -> x.count(0));
        due(0, () -> x.count(1));
        holds(true, () -> x.isSound());
        fails(INDEX, () -> x.op(0, 0));
        fails(STATE, () -> x.drop());
        due(1, () -> x.count(6));
        due(1, () -> x.least());
        due(0, () -> x.plan(1, 0));
        due(1, () -> x.plan(1, 1));
    }

    static void promise02() {
        OverlapMill x = new OverlapMill();
        due(0, () -> x.reckon(ADD, 7, 3, NUMBER, -99));
        due(1, () -> x.reckon(LEAST, TURN, Integer.MIN_VALUE, NUMBER, 99));
        due(Integer.MIN_VALUE, () -> x.op(1, 2));
        fails(ARGUMENT, () -> x.reckon(-1, TURN, 0, TURN, 0));
        fails(ARGUMENT, () -> x.reckon(LOAD, TURN, 0, TURN, 0));
        fails(ARGUMENT, () -> x.reckon(ADD, 8, 0, TURN, 0));
        fails(ARGUMENT, () -> x.reckon(ADD, -3, 0, TURN, 0));
        fails(ARGUMENT, () -> x.reckon(ADD, 0, 4, TURN, 0));
        fails(ARGUMENT, () -> x.reckon(ADD, 0, -1, TURN, 0));
        fails(ARGUMENT, () -> x.reckon(ADD, TURN, 0, NUMBER, 100));
        fails(ARGUMENT, () -> x.reckon(ADD, NUMBER, -100, TURN, 0));
        fails(ARGUMENT, () -> x.reckon(ADD, TURN, 0, 0, 4));
        due(2, () -> x.count(0));
        OverlapMill full = adds(8);
        fails(STATE, () -> full.reckon(ADD, TURN, 0, TURN, 0));
        fails(ARGUMENT, () -> full.reckon(4, TURN, 0, TURN, 0));
        due(8, () -> full.count(0));
    }

    static void promise03() {
        OverlapMill x = new OverlapMill();
        due(0, () -> x.load(0, 0));
        due(1, () -> x.load(1, 7));
        fails(ARGUMENT, () -> x.load(2, 0));
        fails(ARGUMENT, () -> x.load(-1, 0));
        fails(ARGUMENT, () -> x.load(0, 8));
        fails(ARGUMENT, () -> x.load(0, -1));
        due(2, () -> x.count(0));
        OverlapMill full = adds(8);
        fails(STATE, () -> full.load(0, 0));
        fails(ARGUMENT, () -> full.load(0, 8));
    }

    static void promise04() {
        OverlapMill x = new OverlapMill();
        due(0, () -> x.store(TURN, 77, 1, 7));
        due(1, () -> x.store(NUMBER, 99, 0, 0));
        due(2, () -> x.store(7, 3, 0, 0));
        fails(ARGUMENT, () -> x.store(8, 0, 0, 0));
        fails(ARGUMENT, () -> x.store(0, 4, 0, 0));
        fails(ARGUMENT, () -> x.store(NUMBER, 100, 0, 0));
        fails(ARGUMENT, () -> x.store(TURN, 0, 2, 0));
        fails(ARGUMENT, () -> x.store(TURN, 0, 0, 8));
        due(3, () -> x.count(0));
        OverlapMill full = adds(8);
        fails(STATE, () -> full.store(TURN, 0, 0, 0));
        fails(ARGUMENT, () -> full.store(TURN, 0, -1, 0));
    }

    static void promise05() {
        OverlapMill x = scale();
        due(2, () -> x.drop());
        due(1, () -> x.count(1));
        due(1, () -> x.drop());
        due(0, () -> x.drop());
        fails(STATE, () -> x.drop());
        due(0, () -> x.reckon(ADD, TURN, 0, TURN, 0));
        x.first(0, 5);
        x.drop();
        x.load(0, 1);
        due(0, () -> x.op(0, 5));
        OverlapMill y = new OverlapMill();
        y.load(0, 0);
        y.reckon(ADD, 0, 0, 2, 1);
        y.load(0, 1);
        holds(true, () -> y.isSound());
        y.drop();
        holds(false, () -> y.isSound());
    }

    static void promise06() {
        OverlapMill x = growth();
        due(0, () -> x.first(1, 9999));
        due(9999, () -> x.first(1, -9999));
        due(-9999, () -> x.op(1, 5));
        fails(ARGUMENT, () -> x.first(1, 10000));
        fails(ARGUMENT, () -> x.first(1, -10000));
        fails(INDEX, () -> x.first(2, 0));
        fails(INDEX, () -> x.first(-1, 10000));
        due(-9999, () -> x.first(1, 7));
        // 2 times the FIRST value of the ADD, and 5.
        due(14, () -> x.comes(0, 4, 1));
        due(19, () -> x.comes(1, 4, 1));
        OverlapMill y = scale();
        due(0, () -> y.first(2, 3));
        due(3, () -> y.op(2, 5));
    }

    static void promise07() {
        OverlapMill x = scale();
        due(0, () -> did(() -> x.kind(MULTIPLY, 2, 6, 15)));
        due(0, () -> x.uses(1));
        due(6, () -> x.uses(2));
        due(9, () -> x.count(5));
        due(6, () -> x.need(1, 3));
        fails(INDEX, () -> did(() -> x.kind(6, 0, 1, 1)));
        fails(INDEX, () -> did(() -> x.kind(-1, 9, 1, 1)));
        fails(ARGUMENT, () -> did(() -> x.kind(0, 3, 1, 1)));
        fails(ARGUMENT, () -> did(() -> x.kind(0, -1, 1, 1)));
        fails(ARGUMENT, () -> did(() -> x.kind(0, 0, 0, 1)));
        fails(ARGUMENT, () -> did(() -> x.kind(2, 0, 7, 1)));
        fails(ARGUMENT, () -> did(() -> x.kind(2, 0, 1, 0)));
        fails(ARGUMENT, () -> did(() -> x.kind(2, 0, 1, 16)));
        due(9, () -> x.count(5));
    }

    static void promise08() {
        OverlapMill x = scale();
        due(1, () -> x.unit(2, 3));
        due(3, () -> x.unit(2, 2));
        due(2, () -> x.count(8));
        fails(INDEX, () -> x.unit(3, 1));
        fails(INDEX, () -> x.unit(-1, 9));
        fails(ARGUMENT, () -> x.unit(0, 0));
        fails(ARGUMENT, () -> x.unit(0, 4));
        due(1, () -> x.count(6));
        // MULTIPLY uses UNIT 1 twice: d 1 fits only with a COUNT of 2.
        holds(false, () -> x.fits(1));
        x.unit(1, 2);
        holds(true, () -> x.fits(1));
    }

    static void promise09() {
        OverlapMill x = scale();
        x.reckon(SUBTRACT, TURN, 123, 0, 2);
        due(LOAD, () -> x.op(0, 0));
        due(0, () -> x.op(0, 1));
        due(0, () -> x.op(0, 2));
        due(0, () -> x.op(0, 3));
        due(0, () -> x.op(0, 4));
        due(STORE, () -> x.op(2, 0));
        due(1, () -> x.op(2, 1));
        due(0, () -> x.op(2, 2));
        due(1, () -> x.op(2, 3));
        due(0, () -> x.op(2, 4));
        due(SUBTRACT, () -> x.op(3, 0));
        due(TURN, () -> x.op(3, 1));
        due(123, () -> x.op(3, 2));
        due(0, () -> x.op(3, 3));
        due(2, () -> x.op(3, 4));
        due(0, () -> x.op(3, 5));
        fails(ELEMENT, () -> x.op(3, 6));
        fails(ELEMENT, () -> x.op(3, -1));
        fails(INDEX, () -> x.op(4, 6));
        fails(INDEX, () -> x.op(-1, 0));
        OverlapMill y = new OverlapMill();
        y.load(1, 6);
        due(1, () -> y.op(0, 1));
        due(6, () -> y.op(0, 2));
    }

    static void promise10() {
        holds(true, () -> scale().isSound());
        holds(false, () -> unsound().isSound());
        OverlapMill missing = new OverlapMill();
        missing.reckon(ADD, 1, 1, TURN, 0);
        holds(false, () -> missing.isSound());
        missing.load(0, 0);
        holds(true, () -> missing.isSound());
        OverlapMill stored = new OverlapMill();
        stored.store(TURN, 0, 0, 0);
        stored.reckon(ADD, 0, 1, TURN, 0);
        holds(false, () -> stored.isSound());
        OverlapMill later = new OverlapMill();
        later.reckon(ADD, 1, 0, TURN, 0);
        later.load(0, 0);
        holds(false, () -> later.isSound());
        OverlapMill itself = new OverlapMill();
        itself.reckon(ADD, 0, 1, TURN, 0);
        holds(true, () -> itself.isSound());
        OverlapMill second = new OverlapMill();
        second.reckon(ADD, TURN, 0, 3, 1);
        holds(false, () -> second.isSound());
    }

    static void promise11() {
        OverlapMill x = chain();
        needs(x, new int[][] {{0, 1, 0, 2}, {1, 2, 0, 1}, {2, 0, 2, 1}});
        fails(ELEMENT, () -> x.need(0, 4));
        fails(ELEMENT, () -> x.need(0, -1));
        fails(INDEX, () -> x.need(3, 4));
        fails(INDEX, () -> x.need(-1, 0));
        fails(STATE, () -> unsound().need(-1, 9));
        OverlapMill rows = new OverlapMill();
        rows.kind(STORE, 2, 4, 1);
        rows.load(0, 3);
        rows.store(TURN, 0, 0, 3);
        rows.store(TURN, 0, 0, 5);
        rows.load(0, 5);
        rows.load(1, 5);
        rows.store(TURN, 0, 0, 3);
        // LOAD 0 at 3 is ahead of both STORES at 3, STORE 2 at 5 is ahead of all but LOAD 3 at 5.
        needs(rows, new int[][] {{0, 1, 0, -3}, {0, 5, 0, -3}, {1, 5, 0, 1}, {2, 0, 2, 4},
            {2, 1, 2, 1}, {2, 3, 0, 4}, {2, 5, 2, 1}, {3, 1, 2, -3}, {3, 5, 2, -3}});
        OverlapMill twice = new OverlapMill();
        twice.load(0, 0);
        twice.reckon(ADD, 0, 1, 0, 1);
        twice.reckon(ADD, 1, 1, 0, 3);
        twice.reckon(ADD, 0, 0, 0, 3);
        needs(twice, new int[][] {{0, 1, 1, 2}, {0, 2, 3, 2}, {0, 3, 0, 2}, {0, 3, 3, 2}, {1, 2, 1, 1}});
    }

    static void needs(OverlapMill x, int[][] want) {
        due(want.length, () -> x.count(1));
        for (int i = 0; i < want.length; i++) {
            for (int what = 0; what < 4; what++) {
                int at = i;
                int which = what;
                due(want[i][what], () -> x.need(at, which));
            }
        }
    }

    static void promise12() {
        OverlapMill x = chain();
        due(3, () -> x.far(0, 2, 2));
        due(0, () -> x.far(0, 0, 2));
        due(-2, () -> x.far(0, 0, 3));
        due(-5, () -> x.far(2, 0, 3));
        due(-1000, () -> scale().far(2, 0, 1));
        due(-1000, () -> scale().far(1, 1, 1));
        fails(STATE, () -> x.far(0, 0, 1));
        fails(ARGUMENT, () -> x.far(0, 0, 0));
        fails(ARGUMENT, () -> x.far(0, 0, 13));
        fails(INDEX, () -> x.far(3, 0, 0));
        fails(INDEX, () -> x.far(0, -1, 0));
        fails(STATE, () -> unsound().far(0, 0, 12));
        fails(ARGUMENT, () -> unsound().far(0, 0, 0));
    }

    static void promise13() {
        OverlapMill x = chain();
        due(3, () -> x.height(0, 2));
        due(1, () -> x.height(1, 2));
        due(0, () -> x.height(2, 2));
        due(5, () -> scale().height(0, 1));
        fails(STATE, () -> x.height(0, 1));
        fails(ARGUMENT, () -> x.height(0, 13));
        fails(INDEX, () -> x.height(3, 13));
        fails(STATE, () -> unsound().height(0, 1));
    }

    static void promise14() {
        OverlapMill x = scale();
        due(0, () -> x.uses(0));
        due(2, () -> x.uses(1));
        due(2, () -> x.uses(2));
        fails(INDEX, () -> x.uses(3));
        fails(INDEX, () -> x.uses(-1));
        due(1, () -> unsound().uses(0));
        x.kind(LOAD, 0, 2, 15);
        due(4, () -> x.uses(0));
    }

    static void promise15() {
        OverlapMill x = scale();
        holds(false, () -> x.fits(1));
        holds(true, () -> x.fits(2));
        holds(true, () -> x.fits(12));
        holds(false, () -> growth().fits(3));
        holds(true, () -> growth().fits(4));
        fails(ARGUMENT, () -> x.fits(0) ? 1 : 0);
        fails(ARGUMENT, () -> x.fits(13) ? 1 : 0);
        fails(STATE, () -> unsound().fits(1) ? 1 : 0);
        fails(ARGUMENT, () -> unsound().fits(13) ? 1 : 0);
        // Twice the bits 0 and 2 leave no room round a ring of 5, though 4 uses are asked of 5.
        OverlapMill y = adds(2);
        y.kind(ADD, 0, 1, 5);
        holds(true, () -> y.fits(4));
        holds(true, () -> y.fits(5));
        holds(false, () -> y.fits(2));
        holds(false, () -> y.fits(3));
        OverlapMill z = adds(1);
        z.kind(ADD, 0, 1, 9);
        // Bits 0 and 3 meet in one SLOT of a ring of 3 and of 1, not of 2.
        holds(false, () -> z.fits(1));
        holds(true, () -> z.fits(2));
        holds(false, () -> z.fits(3));
        holds(true, () -> z.fits(4));
    }

    static void promise16() {
        due(2, () -> scale().least());
        due(4, () -> growth().least());
        due(8, () -> adds(8).least());
        fails(STATE, () -> unsound().least());
        OverlapMill slow = growth();
        slow.kind(MULTIPLY, 1, 6, 1);
        slow.kind(ADD, 0, 6, 1);
        due(12, () -> slow.least());
        slow.kind(ADD, 0, 6, 15);
        slow.kind(MULTIPLY, 0, 6, 15);
        due(12, () -> slow.least());
        OverlapMill none = adds(4);
        none.kind(ADD, 0, 1, 15);
        none.kind(LOAD, 0, 1, 1);
        none.load(0, 0);
        due(-1, () -> none.least());
        none.unit(0, 2);
        due(9, () -> none.least());
    }

    static void promise17() {
        OverlapMill x = scale();
        due(0, () -> x.time(0, 2));
        due(2, () -> x.time(1, 2));
        due(5, () -> x.time(2, 2));
        due(0, () -> x.time(0, 12));
        // SLOT 0 is least for the MULTIPLY, though TIME 12 is late; the LOAD has SLOT 0 of UNIT 2.
        due(12, () -> x.time(1, 12));
        due(25, () -> x.time(2, 12));
        due(4, () -> adds(5).time(4, 5));
        // ADD needs SLOT 3 at least behind the MULTIPLY, and not above 3 for d 4.
        due(3, () -> growth().time(1, 4));
        due(4, () -> growth().time(1, 5) + 1);
        fails(STATE, () -> x.time(0, 1));
        fails(STATE, () -> unsound().time(0, 1));
        fails(ARGUMENT, () -> x.time(0, 0));
        fails(INDEX, () -> x.time(3, 0));
    }

    static void promise18() {
        OverlapMill x = scale();
        due(0, () -> x.ring(0, 0, 2));
        due(1, () -> x.ring(1, 0, 2));
        due(1, () -> x.ring(1, 1, 2));
        due(1, () -> x.ring(2, 1, 2));
        due(0, () -> x.ring(2, 2, 3));
        due(1, () -> x.ring(1, 1, 3));
        fails(ARGUMENT, () -> x.ring(0, 2, 2));
        fails(ARGUMENT, () -> x.ring(0, -1, 2));
        fails(ARGUMENT, () -> x.ring(0, 1, 1));
        fails(ARGUMENT, () -> x.ring(0, 0, 13));
        fails(STATE, () -> x.ring(0, 0, 1));
        fails(INDEX, () -> x.ring(3, 5, 1));
        x.unit(1, 2);
        // Both uses of the MULTIPLY are in the one SLOT.
        x.unit(2, 2);
        due(2, () -> x.ring(1, 0, 1));
    }

    static void promise19() {
        OverlapMill x = scale();
        due(0, () -> x.quick(0, 2));
        due(2, () -> x.quick(1, 2));
        due(5, () -> x.quick(2, 2));
        due(-1, () -> x.quick(0, 1));
        fails(ARGUMENT, () -> x.quick(0, 0));
        fails(INDEX, () -> x.quick(3, 0));
        fails(STATE, () -> growth().quick(0, 3));
        fails(STATE, () -> unsound().quick(0, 1));
        // Equal HEIGHTS: the least number first, each at the first room.
        due(2, () -> adds(3).quick(2, 3));
        // UNIT 2 is taken at SLOT 5 modulo 5 by the LOAD, so the STORE comes one behind.
        due(6, () -> x.quick(2, 5));
        OverlapMill thrown = thrownOut();
        due(3, () -> thrown.quick(0, 4));
        due(1, () -> thrown.quick(1, 4));
        due(0, () -> thrown.quick(2, 4));
        // The MULTIPLY comes to 0 as the highest, the ADD to 3, and nothing is thrown out.
        due(3, () -> growth().quick(1, 4));
    }

    /** OP 2 uses SLOTS 0 and 2, or 1 and 3: OPS 0 and 1 leave it no room, so OP 0 goes from 0 to 3. */
    static OverlapMill thrownOut() {
        OverlapMill x = adds(2);
        x.kind(SUBTRACT, 0, 1, 5);
        x.reckon(SUBTRACT, TURN, 0, TURN, 0);
        return x;
    }

    static void promise20() {
        OverlapMill x = scale();
        due(3, () -> x.moves(2));
        due(-1, () -> x.moves(1));
        due(8, () -> adds(8).moves(8));
        due(-1, () -> adds(3).moves(2));
        due(4, () -> thrownOut().moves(4));
        // 30 moves are just enough for 5 OPS; the 19 that 3 OPS would take are one too many.
        OverlapMill enough = new OverlapMill();
        enough.unit(1, 3);
        enough.kind(ADD, 1, 1, 13);
        enough.kind(SUBTRACT, 1, 1, 9);
        enough.kind(MULTIPLY, 1, 1, 15);
        enough.kind(LEAST, 1, 1, 5);
        for (int kind : new int[] {SUBTRACT, ADD, MULTIPLY, MULTIPLY, LEAST}) {
            enough.reckon(kind, TURN, 0, TURN, 0);
        }
        due(30, () -> enough.moves(5));
        OverlapMill few = new OverlapMill();
        few.kind(LEAST, 0, 1, 8);
        few.kind(SUBTRACT, 0, 1, 5);
        few.kind(LOAD, 0, 1, 15);
        few.reckon(LEAST, TURN, 0, TURN, 0);
        few.reckon(SUBTRACT, TURN, 0, TURN, 0);
        few.load(1, 7);
        holds(true, () -> few.fits(7));
        due(-1, () -> few.moves(7));
        due(-1, () -> few.quick(0, 7));
        due(0, () -> new OverlapMill().moves(12));
        fails(ARGUMENT, () -> x.moves(13));
        fails(STATE, () -> growth().moves(3));
        fails(STATE, () -> unsound().moves(3));
        fails(ARGUMENT, () -> unsound().moves(0));
    }

    static void promise21() {
        due(2, () -> scale().quickest());
        due(4, () -> growth().quickest());
        due(1, () -> new OverlapMill().quickest());
        fails(STATE, () -> unsound().quickest());
        OverlapMill none = adds(4);
        none.kind(ADD, 0, 1, 15);
        none.reckon(ADD, TURN, 0, TURN, 0);
        due(-1, () -> none.quickest());
    }

    static void promise22() {
        OverlapMill x = scale();
        int[] want = {6, 3, 2, 1, 2, 1, 0};
        for (int what = 0; what < 7; what++) {
            int which = what;
            due(want[what], () -> x.plan(2, which));
        }
        fails(ELEMENT, () -> x.plan(0, 7));
        fails(ELEMENT, () -> x.plan(2, -1));
        fails(ARGUMENT, () -> x.plan(0, 0));
        fails(STATE, () -> x.plan(1, 0));
        fails(STATE, () -> unsound().plan(1, 0));
        // d 1: the LOAD comes at 2, is used at 2 and, 2 TURNS behind, at 4: LIFE 3.
        OverlapMill y = longLife();
        int[] lives = {3, 3, 4, 3, 4, 3, 0};
        for (int what = 0; what < 7; what++) {
            int which = what;
            due(lives[what], () -> y.plan(1, which));
        }
        // d 2: LIFE from 2 to 6 are SLOTS 0, 1, 0, 1, 0.
        due(3, () -> y.plan(2, 5));
        due(0, () -> y.plan(2, 6));
    }

    static void promise23() {
        OverlapMill x = longLife();
        int[] loads = {0, 0, 5, 3, 3, 0};
        int[] adds = {1, 0, 0, 1, 1, 99};
        for (int what = 0; what < 6; what++) {
            int which = what;
            due(loads[what], () -> x.life(0, 2, which));
            due(adds[what], () -> x.life(1, 2, which));
        }
        fails(ELEMENT, () -> x.life(0, 0, 6));
        fails(ELEMENT, () -> x.life(0, 0, -1));
        fails(INDEX, () -> x.life(2, 0, 6));
        fails(ARGUMENT, () -> x.life(0, 0, 0));
        fails(STATE, () -> scale().life(0, 1, 0));
        OverlapMill y = scale();
        due(2, () -> y.life(2, 2, 0));
        due(1, () -> y.life(2, 2, 1));
        due(0, () -> y.life(2, 2, 2));
        due(0, () -> y.life(2, 2, 3));
        due(0, () -> y.life(2, 2, 4));
        due(10, () -> y.life(0, 12, 5));
        // COPIES 3, 2, 1 and 1 of an UNROLL of 3: 2 does not divide it, so PAIRED is 3, 3, 1 and 1.
        OverlapMill z = new OverlapMill();
        z.load(0, 0);
        z.load(1, 0);
        z.reckon(ADD, 0, 2, 0, 0);
        z.reckon(ADD, 1, 1, 1, 0);
        z.unit(2, 2);
        z.unit(0, 2);
        due(3, () -> z.life(0, 1, 3));
        due(2, () -> z.life(1, 1, 3));
        due(3, () -> z.life(1, 1, 4));
        due(1, () -> z.life(2, 1, 4));
        due(7, () -> z.plan(1, 2));
        due(8, () -> z.plan(1, 4));
        // A NEED to itself does not hold an OP back: LOOSE looks at others alone.
        OverlapMill self = new OverlapMill();
        self.reckon(ADD, 0, 1, TURN, 0);
        due(99, () -> self.life(0, 1, 5));
    }

    static void promise24() {
        OverlapMill x = longLife();
        due(3, () -> x.alive(0, 2));
        due(2, () -> x.alive(1, 2));
        due(1, () -> scale().alive(1, 2));
        due(0, () -> adds(1).alive(0, 1));
        fails(ARGUMENT, () -> x.alive(2, 2));
        fails(ARGUMENT, () -> x.alive(-1, 2));
        fails(ARGUMENT, () -> x.alive(0, 0));
        fails(STATE, () -> scale().alive(0, 1));
        fails(STATE, () -> unsound().alive(0, 1));
    }

    static void promise25() {
        OverlapMill x = scale();
        due(0, () -> x.flat(2, 5, 2, 4));
        due(3, () -> x.flat(2, 11, 2, 4));
        due(-1, () -> x.flat(2, 13, 2, 4));
        due(-1, () -> x.flat(2, 6, 2, 4));
        due(-1, () -> x.flat(2, 3, 2, 4));
        due(-1, () -> x.flat(0, 0, 2, 0));
        due(-1, () -> x.flat(0, Integer.MAX_VALUE, 2, 40));
        fails(ARGUMENT, () -> x.flat(0, -1, 2, 4));
        fails(ARGUMENT, () -> x.flat(0, 0, 0, 4));
        fails(ARGUMENT, () -> x.flat(0, 0, 2, 41));
        fails(ARGUMENT, () -> x.flat(0, 0, 2, -1));
        fails(STATE, () -> x.flat(0, 0, 1, 4));
        fails(INDEX, () -> x.flat(3, -1, 0, 41));
    }

    static void promise26() {
        OverlapMill x = scale();
        int[] four = {12, 4, 4, 4};
        int[] two = {8, 8, 0, 0};
        int[] three = {10, 4, 2, 4};
        for (int what = 0; what < 4; what++) {
            int which = what;
            due(four[what], () -> x.cycles(2, 4, which));
            due(two[what], () -> x.cycles(2, 2, which));
            due(three[what], () -> x.cycles(2, 3, which));
            due(0, () -> x.cycles(2, 0, which));
        }
        // d 12 and a SPAN of 1: the RING ends with the last cycle, behind it there is no TAIL.
        OverlapMill y = adds(1);
        due(13, () -> y.cycles(12, 2, 0));
        due(0, () -> y.cycles(12, 2, 1));
        due(13, () -> y.cycles(12, 2, 2));
        due(0, () -> y.cycles(12, 2, 3));
        fails(ELEMENT, () -> x.cycles(0, 0, 4));
        fails(ELEMENT, () -> x.cycles(2, 0, -1));
        fails(ARGUMENT, () -> x.cycles(0, 0, 0));
        fails(ARGUMENT, () -> x.cycles(1, 41, 0));
        fails(STATE, () -> x.cycles(1, 4, 0));
    }

    static void promise27() {
        OverlapMill x = scale();
        due(3, () -> x.run(1, 0, 2, 4));
        due(30, () -> x.run(1, 3, 2, 4));
        due(23, () -> x.run(1, 4, 2, 4));
        due(-5, () -> x.run(1, 0, 2, 0));
        due(190, () -> x.run(0, 63, 2, 40));
        due(436, () -> x.run(1, 63, 2, 40));
        // Row 0 at 10 comes from row 0 at 0 by five steps of 1, however the turns overlap.
        due(6, () -> chain().run(0, 10, 2, 9));
        due(31, () -> chain().run(0, 10, 2, 8));
        fails(ARGUMENT, () -> x.run(2, 0, 2, 4));
        fails(ARGUMENT, () -> x.run(-1, 0, 2, 4));
        fails(ARGUMENT, () -> x.run(0, 64, 1, 4));
        fails(ARGUMENT, () -> x.run(0, -1, 2, 4));
        fails(ARGUMENT, () -> x.run(0, 0, 0, 4));
        fails(ARGUMENT, () -> x.run(0, 0, 2, 41));
        fails(STATE, () -> x.run(0, 0, 1, 4));
        fails(STATE, () -> unsound().run(0, 0, 1, 4));
    }

    static void promise28() {
        OverlapMill x = growth();
        x.first(1, 1);
        // y: 1, then 2 times that and 5: 7, 19, 43.
        due(1, () -> x.comes(1, 4, 0));
        due(7, () -> x.comes(1, 4, 1));
        due(43, () -> x.comes(1, 4, 3));
        due(38, () -> x.comes(0, 4, 3));
        OverlapMill wide = new OverlapMill();
        wide.reckon(MULTIPLY, 0, 1, NUMBER, 99);
        wide.first(0, 9999);
        int value = 9999;
        for (int i = 0; i < 40; i++) {
            value *= 99;
        }
        int last = value;
        due(last, () -> wide.comes(0, 3, 40));
        OverlapMill kinds = new OverlapMill();
        kinds.reckon(SUBTRACT, TURN, 0, NUMBER, 10);
        kinds.reckon(LEAST, 0, 0, NUMBER, -8);
        due(-7, () -> kinds.comes(0, 2, 4));
        due(-8, () -> kinds.comes(1, 2, 4));
        due(-9, () -> kinds.comes(1, 2, 2));
        fails(ARGUMENT, () -> scale().comes(2, 2, 1));
        fails(ARGUMENT, () -> scale().comes(2, 1, 1));
        fails(ARGUMENT, () -> x.comes(0, 0, 1));
        fails(ARGUMENT, () -> x.comes(0, 4, 41));
        fails(STATE, () -> x.comes(0, 3, 1));
        fails(INDEX, () -> x.comes(2, 0, 1));
    }

    static void promise29() {
        OverlapMill x = chain();
        due(1, () -> x.plain(0, 0, 40));
        due(6, () -> x.plain(0, 10, 40));
        due(31, () -> x.plain(0, 10, 0));
        due(2, () -> x.plain(0, 2, 1));
        due(10, () -> x.plain(0, 3, 1));
        due(-5, () -> x.plain(1, 0, 40));
        fails(ARGUMENT, () -> x.plain(0, 64, 1));
        fails(ARGUMENT, () -> x.plain(2, 0, 1));
        fails(ARGUMENT, () -> x.plain(0, 0, 41));
        fails(ARGUMENT, () -> x.plain(0, 0, -1));
        fails(ARGUMENT, () -> unsound().plain(0, 0, -1));
        fails(STATE, () -> unsound().plain(0, 0, 1));
        // No d needs to fit.
        OverlapMill none = adds(5);
        none.kind(ADD, 0, 1, 15);
        none.store(0, 0, 0, 7);
        due(78, () -> none.plain(0, 46, 40));
    }

    static void promise30() {
        OverlapMill x = scale();
        holds(true, () -> x.gate(0, 0, 2, 4));
        holds(true, () -> x.gate(0, 3, 2, 4));
        holds(false, () -> x.gate(0, 4, 2, 4));
        holds(false, () -> x.gate(2, 1, 2, 4));
        holds(true, () -> x.gate(2, 2, 2, 4));
        holds(true, () -> x.gate(2, 5, 2, 4));
        fails(ARGUMENT, () -> x.gate(2, 6, 2, 4) ? 1 : 0);
        fails(ARGUMENT, () -> x.gate(2, -1, 2, 4) ? 1 : 0);
        fails(ARGUMENT, () -> x.gate(2, 0, 2, 0) ? 1 : 0);
        fails(ARGUMENT, () -> x.gate(2, 0, 0, 1) ? 1 : 0);
        fails(ARGUMENT, () -> x.gate(2, 0, 2, 41) ? 1 : 0);
        fails(STATE, () -> x.gate(2, 0, 1, 1) ? 1 : 0);
        fails(INDEX, () -> x.gate(3, -1, 0, 1) ? 1 : 0);
    }

    static void promise31() {
        OverlapMill x = scale();
        due(3, () -> x.code(2, true));
        // 3 words of the RING; HEAD 2, 1, 0 and TAIL 0, 1, 2.
        due(9, () -> x.code(2, false));
        // UNROLL 3 of 2 OPS, STAGES 3.
        due(10, () -> longLife().code(1, false));
        due(0, () -> new OverlapMill().code(1, false));
        fails(ARGUMENT, () -> x.code(0, true));
        fails(ARGUMENT, () -> x.code(13, false));
        fails(STATE, () -> x.code(1, true));
        fails(STATE, () -> unsound().code(1, false));
    }

    static void promise32() {
        OverlapMill x = longLife();
        // d 1: STAGES 3, UNROLL 3, SPAN 3, LATENCIES 3.
        due(0, () -> x.peel(1, 0, false));
        due(2, () -> x.peel(1, 2, false));
        due(1, () -> x.peel(1, 3, false));
        due(2, () -> x.peel(1, 4, false));
        due(0, () -> x.peel(1, 5, false));
        due(0, () -> x.peel(1, 0, true));
        due(6, () -> x.peel(1, 2, true));
        due(7, () -> x.peel(1, 3, true));
        due(7, () -> x.peel(1, 5, true));
        fails(ARGUMENT, () -> x.peel(0, 1, true));
        fails(ARGUMENT, () -> x.peel(1, 41, true));
        fails(STATE, () -> scale().peel(1, 1, false));
        fails(ARGUMENT, () -> scale().peel(1, -1, false));
    }

    static void promise33() {
        due(1, () -> scale().turning(2));
        due(2, () -> steps().turning(1));
        due(1, () -> new OverlapMill().turning(3));
        due(1, () -> adds(1).turning(1));
        due(3, () -> longLife().turning(1));
        due(40, () -> longWay(5).turning(1));
        due(-1, () -> longWay(6).turning(1));
        fails(ARGUMENT, () -> scale().turning(0));
        fails(STATE, () -> scale().turning(1));
        fails(STATE, () -> unsound().turning(1));
    }

    /** The first OP lives 34 cycles (37 for a LATENCY of 6), six others live one each. */
    static OverlapMill longWay(int latency) {
        OverlapMill x = new OverlapMill();
        x.unit(0, 3);
        x.unit(1, 3);
        x.unit(2, 2);
        x.kind(ADD, 0, 5, 1);
        x.kind(SUBTRACT, 1, latency, 1);
        x.kind(MULTIPLY, 2, 6, 1);
        x.kind(LEAST, 2, 1, 1);
        x.reckon(MULTIPLY, TURN, 0, TURN, 0);
        for (int op = 1; op < 7; op++) {
            x.reckon(op < 4 ? ADD : SUBTRACT, op - 1, 0, TURN, 0);
        }
        x.reckon(LEAST, 6, 0, 0, 3);
        return x;
    }

    /** Three ADDS one behind another, all in one cycle's time of UNIT 0. */
    static OverlapMill steps() {
        OverlapMill x = new OverlapMill();
        x.unit(0, 3);
        x.reckon(ADD, TURN, 0, TURN, 0);
        x.reckon(ADD, 0, 0, TURN, 0);
        x.reckon(ADD, 1, 0, TURN, 0);
        return x;
    }

    static void promise34() {
        // With one place the second ADD meets the first one, which is of a TURN later.
        due(0, () -> steps().rotary(0, 1, 1));
        due(-1, () -> steps().rotary(1, 1, 1));
        due(0, () -> steps().rotary(1, 1, 2));
        due(-1, () -> steps().rotary(2, 1, 2));
        // The LOADS live 3 and 1 cycles: places 0, 1, 2 would be met by the first one.
        OverlapMill z = longLife();
        z.load(1, 0);
        z.reckon(ADD, 2, 0, TURN, 0);
        z.unit(0, 2);
        z.unit(2, 2);
        due(-1, () -> z.rotary(2, 1, 3));
        due(3, () -> z.rotary(2, 1, 4));
        due(4, () -> z.turning(1));
        OverlapMill x = scale();
        // LIVES are cycles 2 and 5 of a TURN: never in one cycle, for d 2, so one place would do.
        due(0, () -> x.rotary(0, 2, 1));
        due(0, () -> x.rotary(1, 2, 1));
        due(-1, () -> x.rotary(2, 2, 1));
        OverlapMill y = longLife();
        due(-1, () -> y.rotary(0, 1, 2));
        due(0, () -> y.rotary(0, 1, 3));
        due(-1, () -> y.rotary(1, 1, 3));
        fails(ARGUMENT, () -> x.rotary(0, 2, 0));
        fails(ARGUMENT, () -> x.rotary(0, 2, 41));
        fails(ARGUMENT, () -> x.rotary(0, 0, 1));
        fails(ARGUMENT, () -> x.rotary(0, 1, 0));
        fails(STATE, () -> x.rotary(0, 1, 1));
        fails(INDEX, () -> x.rotary(3, 0, 0));
    }

    static void promise35() {
        OverlapMill x = longLife();
        x.first(0, -7);
        // d 1: three NAMES of the LOAD; TURN i is put in cycle 2 and i.
        due(-7, () -> x.name(0, 0, 1, 1, 5));
        due(1, () -> x.name(0, 0, 2, 1, 5));
        due(-7, () -> x.name(0, 1, 2, 1, 5));
        due(1, () -> x.name(0, 0, 4, 1, 5));
        due(10, () -> x.name(0, 0, 5, 1, 5));
        due(13, () -> x.name(0, 1, 7, 1, 5));
        due(7, () -> x.name(0, 2, 7, 1, 5));
        due(-7, () -> x.name(0, 0, 0, 1, 0));
        fails(ARGUMENT, () -> x.name(0, 3, 7, 1, 5));
        fails(ARGUMENT, () -> x.name(0, -1, 7, 1, 5));
        fails(ARGUMENT, () -> x.name(0, 0, 8, 1, 5));
        fails(ARGUMENT, () -> x.name(0, 0, -1, 1, 5));
        fails(ARGUMENT, () -> x.name(0, 0, 1, 1, 0));
        fails(ARGUMENT, () -> x.name(1, 1, 0, 1, 5));
        fails(ARGUMENT, () -> x.name(0, 0, 0, 0, 5));
        fails(ARGUMENT, () -> x.name(0, 0, 0, 1, 41));
        fails(ARGUMENT, () -> scale().name(2, 0, 0, 1, 1));
        fails(STATE, () -> scale().name(0, 0, 0, 1, 1));
        fails(INDEX, () -> x.name(2, 0, 0, 0, 1));
    }

    static void promise36() {
        due(4, () -> growth().rate(false));
        due(1, () -> growth().rate(true));
        due(0, () -> scale().rate(false));
        due(1, () -> scale().rate(true));
        OverlapMill x = new OverlapMill();
        x.reckon(MULTIPLY, 0, 2, TURN, 0);
        due(3, () -> x.rate(false));
        due(2, () -> x.rate(true));
        x.reckon(MULTIPLY, 0, 0, 1, 3);
        due(3, () -> x.rate(false));
        due(2, () -> x.rate(true));
        due(2, () -> chain().rate(false));
        fails(STATE, () -> unsound().rate(false));
        fails(STATE, () -> unsound().rate(true));
        // Both NEEDS lead from the LOAD to the STORE, so there is no ring.
        OverlapMill zero = new OverlapMill();
        zero.kind(STORE, 2, 6, 1);
        zero.kind(LOAD, 2, 1, 1);
        zero.load(0, 1);
        zero.store(0, 0, 0, 0);
        due(0, () -> zero.rate(false));
        due(1, () -> zero.rate(true));
    }

    static void promise37() {
        due(3, () -> growth().critical());
        due(0, () -> scale().critical());
        due(7, () -> chain().critical());
        OverlapMill x = new OverlapMill();
        x.reckon(ADD, TURN, 0, TURN, 0);
        x.reckon(ADD, 1, 1, TURN, 0);
        x.reckon(ADD, 2, 1, TURN, 0);
        due(2, () -> x.critical());
        x.reckon(ADD, 3, 3, 2, 1);
        due(2, () -> x.critical());
        x.reckon(MULTIPLY, 4, 1, TURN, 0);
        due(16, () -> x.critical());
        fails(STATE, () -> unsound().critical());
    }

    static void promise38() {
        OverlapMill x = new OverlapMill();
        x.reckon(MULTIPLY, 0, 2, TURN, 0);
        x.unit(1, 3);
        // RATE 3 by 2, 2 uses of a UNIT of 3.
        due(2, () -> x.fold(1));
        due(3, () -> x.fold(2));
        due(5, () -> x.fold(3));
        due(6, () -> x.fold(4));
        due(2, () -> scale().fold(1));
        due(8, () -> scale().fold(4));
        due(1, () -> new OverlapMill().fold(4));
        fails(ARGUMENT, () -> x.fold(0));
        fails(ARGUMENT, () -> x.fold(5));
        fails(ARGUMENT, () -> unsound().fold(5));
        fails(STATE, () -> unsound().fold(1));
    }

    static void promise39() {
        OverlapMill x = new OverlapMill();
        x.reckon(MULTIPLY, 0, 2, TURN, 0);
        x.unit(1, 3);
        due(2, () -> x.bestFold());
        due(1, () -> scale().bestFold());
        due(4, () -> new OverlapMill().bestFold());
        OverlapMill thirds = adds(2);
        thirds.unit(0, 3);
        due(3, () -> thirds.bestFold());
        fails(STATE, () -> unsound().bestFold());
    }

    static void promise40() {
        OverlapMill x = growth();
        due(3, () -> x.faster(MULTIPLY));
        due(4, () -> x.faster(LOAD));
        fails(STATE, () -> x.faster(ADD));
        x.kind(ADD, 0, 3, 1);
        due(5, () -> x.faster(ADD));
        due(6, () -> x.count(2));
        fails(INDEX, () -> x.faster(6));
        fails(INDEX, () -> x.faster(-1));
        fails(STATE, () -> unsound().faster(MULTIPLY));
        fails(INDEX, () -> unsound().faster(6));
        // A quicker STORE comes later to its end: LOAD to STORE has a DELAY of 1 less LATENCY.
        OverlapMill y = new OverlapMill();
        y.kind(STORE, 2, 2, 1);
        y.kind(LOAD, 1, 1, 1);
        y.load(0, 0);
        y.store(0, 0, 0, 1);
        due(3, () -> y.count(2));
        due(2, () -> y.faster(STORE));
        due(2, () -> x.unit(0, 1) + 1);
    }

    static void promise41() {
        OverlapMill x = growth();
        due(0, () -> x.without(0));
        due(0, () -> x.without(1));
        x.reckon(MULTIPLY, 2, 2, 2, 3);
        due(2, () -> x.without(0));
        due(4, () -> x.without(2));
        due(4, () -> x.count(1));
        fails(INDEX, () -> x.without(4));
        fails(INDEX, () -> x.without(-1));
        fails(STATE, () -> unsound().without(9));
        due(4, () -> x.count(2));
    }

    static void promise42() {
        OverlapMill x = scale();
        due(2, () -> x.idle(0, 2));
        due(0, () -> x.idle(1, 2));
        due(10, () -> x.idle(2, 12));
        x.unit(0, 3);
        due(6, () -> x.idle(0, 2));
        fails(INDEX, () -> x.idle(3, 0));
        fails(ARGUMENT, () -> x.idle(0, 0));
        fails(STATE, () -> x.idle(0, 1));
        fails(STATE, () -> unsound().idle(0, 1));
    }

    static void promise43() {
        OverlapMill x = scale();
        x.reckon(ADD, 0, 0, TURN, 0);
        due(0, () -> x.bare(0, 1, false));
        due(2, () -> x.bare(1, 1, false));
        due(5, () -> x.bare(2, 1, false));
        due(2, () -> x.bare(3, 1, false));
        due(0, () -> x.bare(0, 1, true));
        due(2, () -> x.bare(1, 1, true));
        due(5, () -> x.bare(2, 1, true));
        due(5, () -> x.bare(3, 1, true));
        due(1, () -> growth().bare(0, 5, true) + 1);
        // The ADD may come one later by its end, no more; d 5 leaves the ring one cycle.
        due(3, () -> growth().bare(1, 5, true));
        OverlapMill y = longLife();
        y.load(1, 0);
        due(1, () -> y.bare(2, 3, true));
        due(0, () -> y.bare(2, 3, false));
        fails(INDEX, () -> x.bare(4, 0, false));
        fails(ARGUMENT, () -> x.bare(0, 13, false));
        fails(STATE, () -> growth().bare(0, 3, true));
        fails(STATE, () -> unsound().bare(0, 3, true));
    }

    static void promise44() {
        OverlapMill x = scale();
        due(0, () -> x.who(0, 0, 2));
        due(2, () -> x.who(1, 0, 2));
        due(2, () -> x.who(1, 1, 2));
        due(1, () -> x.who(2, 0, 2));
        due(4, () -> x.who(2, 1, 2));
        x.unit(2, 2);
        due(5, () -> x.who(2, 0, 2));
        fails(ARGUMENT, () -> x.who(0, 2, 2));
        fails(ARGUMENT, () -> x.who(0, 0, 0));
        fails(STATE, () -> x.who(0, 0, 1));
        fails(INDEX, () -> x.who(3, 0, 0));
    }

    static void promise45() {
        OverlapMill x = scale();
        // TIMES 0, 2, 5 of one TURN of 6 cycles; with a second one 2, 4, 7 of 8.
        due(3, () -> x.holes(2, 1));
        due(3, () -> x.holes(2, 2));
        due(0, () -> x.holes(2, 0));
        due(11, () -> adds(1).holes(12, 2));
        due(10, () -> new OverlapMill().holes(10, 2));
        fails(ARGUMENT, () -> x.holes(0, 1));
        fails(ARGUMENT, () -> x.holes(2, 41));
        fails(STATE, () -> x.holes(1, 1));
        fails(STATE, () -> unsound().holes(1, 1));
    }

    static void promise46() {
        OverlapMill x = scale();
        // Only place 0 is late: all that is behind waits once.
        due(5, () -> x.late(2, 4, 9, 5));
        // Every place is late: the LOAD of TURN i begins in the cycle that waits for TURN i less 1.
        due(4, () -> x.late(2, 1, 1, 4));
        due(16, () -> x.late(2, 4, 1, 4));
        due(8, () -> x.late(2, 4, 2, 4));
        due(0, () -> x.late(2, 0, 1, 9));
        due(0, () -> growth().late(4, 40, 1, 9));
        // A longer way from LOAD to MULTIPLY takes up what is late.
        due(0, () -> x.late(12, 4, 1, 9));
        fails(ARGUMENT, () -> x.late(0, 1, 1, 1));
        fails(ARGUMENT, () -> x.late(2, 41, 1, 1));
        fails(ARGUMENT, () -> x.late(2, 1, 0, 1));
        fails(ARGUMENT, () -> x.late(2, 1, 10, 1));
        fails(ARGUMENT, () -> x.late(2, 1, 1, 0));
        fails(ARGUMENT, () -> x.late(1, 1, 1, 10));
        fails(STATE, () -> x.late(1, 1, 1, 1));
        fails(STATE, () -> unsound().late(1, 1, 1, 1));
    }

    static void promise47() {
        // 2 times (n less 1), and 6, against 6 times n.
        due(2, () -> scale().pays(2));
        // SPAN 26 for d 12 against LATENCIES of 6.
        due(-1, () -> scale().pays(12));
        due(-1, () -> adds(1).pays(1));
        due(-1, () -> new OverlapMill().pays(1));
        // LATENCIES 13; each OP stands in SLOT 0, so SPAN is 4 times 12, and 3: 40 TURNS are enough.
        OverlapMill x = new OverlapMill();
        x.unit(0, 3);
        x.kind(ADD, 0, 2, 1);
        x.kind(SUBTRACT, 0, 3, 1);
        x.load(0, 0);
        x.reckon(ADD, 0, 0, TURN, 0);
        x.reckon(SUBTRACT, 1, 0, TURN, 0);
        x.reckon(SUBTRACT, 2, 0, TURN, 0);
        x.reckon(MULTIPLY, 3, 0, TURN, 0);
        due(40, () -> x.pays(12));
        x.kind(MULTIPLY, 1, 2, 1);
        due(-1, () -> x.pays(12));
        fails(ARGUMENT, () -> scale().pays(0));
        fails(STATE, () -> scale().pays(1));
        fails(STATE, () -> unsound().pays(1));
    }

    static void promise48() {
        OverlapMill x = adds(6);
        due(3, () -> x.more(0));
        due(6, () -> x.more(1));
        x.unit(0, 3);
        due(2, () -> x.more(0));
        due(2, () -> x.count(4));
        x.drop();
        x.drop();
        due(2, () -> x.count(4));
        due(1, () -> x.more(0));
        due(4, () -> growth().more(1));
        due(1, () -> new OverlapMill().more(2));
        fails(INDEX, () -> x.more(3));
        fails(INDEX, () -> unsound().more(-1));
        fails(STATE, () -> unsound().more(0));
    }

    static void promise49() {
        OverlapMill x = longLife();
        // NAMES by d: 3 and 1 for 1; LIFE 5 for d 2 and 3 COPIES again.
        due(1, () -> x.squeeze(4));
        due(-1, () -> x.squeeze(1));
        due(2, () -> scale().squeeze(2));
        due(-1, () -> scale().squeeze(1));
        due(1, () -> new OverlapMill().squeeze(0));
        fails(ARGUMENT, () -> x.squeeze(-1));
        fails(ARGUMENT, () -> x.squeeze(100));
        due(1, () -> x.squeeze(99));
        fails(ARGUMENT, () -> unsound().squeeze(100));
        fails(STATE, () -> unsound().squeeze(0));
    }

    static void promise50() {
        OverlapMill x = scale();
        int[] want = {3, 2, 0, 2, 2, 6, 1, 1, 1, -1};
        int[] lost = {1, -1, -1, -1, -1, 1, 1, 1, 1, -1};
        OverlapMill y = unsound();
        for (int what = 0; what < 10; what++) {
            int which = what;
            due(want[what], () -> x.count(which));
            due(lost[what], () -> y.count(which));
        }
        due(-1, () -> x.count(-1));
        due(-1, () -> x.count(Integer.MIN_VALUE));
        due(4, () -> growth().count(2));
        due(4, () -> growth().count(4));
        due(0, () -> new OverlapMill().count(3));
        due(1, () -> new OverlapMill().count(4));
        x.unit(1, 3);
        due(3, () -> x.count(7));
        due(2, () -> x.count(3));
    }
}
