/** What each call throws, which of several exceptions, and that nothing is changed by a call that throws. */
final class ThrowEdges extends Edge {
    static final int[] WILD = {LOWEST, LOWEST + 1, -1000000, -1000, HIGHEST - 1, HIGHEST, 1000000, 1000};

    private ThrowEdges() {
    }

    /** A call that is asked with one number, all others being fine. */
    interface Asked {
        long by(OverlapMill x, int number);
    }

    static void go() {
        noSuchOps();
        noSuchUnits();
        noSuchOthers();
        noSuchStepOfRounds();
        noSuchStepOfPlans();
        noSuchSlots();
        noSuchTurns();
        noSuchWhat();
        ownNumbers();
        notSound();
        inGeneral();
    }

    static long yes(boolean answer) {
        return answer ? 1 : 0;
    }

    /** All the numbers are refused in the same way, whatever the loop is. */
    static void refused(Class<?> want, Asked call, int... numbers) {
        for (int number : numbers) {
            fails(want, () -> call.by(Loops.adds(1), number));
            fails(want, () -> call.by(Loops.unsound(), number));
            fails(want, () -> call.by(Loops.growth(), number));
        }
        for (int number : WILD) {
            fails(want, () -> call.by(Loops.adds(1), number));
            fails(want, () -> call.by(Loops.unsound(), number));
        }
    }

    static void taken(OverlapMill x, Asked call, int... numbers) {
        for (int number : numbers) {
            takes(() -> call.by(x, number));
        }
    }

    /** With worse all other numbers are none too. */
    static void noOp(int promise, Asked call, Asked worse) {
        sentence(promise, "IndexOutOfBoundsException", () -> {
            refused(INDEX, call, -1, -2, 2, 7, 8);
            refused(INDEX, worse, -1, -2, 2, 7, 8);
            fails(INDEX, () -> call.by(new OverlapMill(), 0));
            fails(INDEX, () -> worse.by(new OverlapMill(), 0));
            taken(eight(), call, 0, 7);
            fails(INDEX, () -> call.by(eight(), 8));
            // An OP that was dropped is none any more.
            OverlapMill x = eight();
            x.drop();
            fails(INDEX, () -> call.by(x, 7));
            takes(() -> call.by(x, 6));
        });
    }

    /** Eight OPS side by side, for which d 3 fits. */
    static OverlapMill eight() {
        OverlapMill x = Loops.adds(8);
        x.unit(0, 3);
        return x;
    }

    static void noSuchOps() {
        noOp(12, (x, op) -> x.far(op, 0, 3), (x, op) -> x.far(op, -1, 0));
        sentence(12, "IndexOutOfBoundsException", () -> {
            refused(INDEX, (x, op) -> x.far(0, op, 3), -1, 2, 8);
            refused(INDEX, (x, op) -> x.far(0, op, 13), -1, 2, 8);
        });
        noOp(13, (x, op) -> x.height(op, 3), (x, op) -> x.height(op, 0));
        noOp(17, (x, op) -> x.time(op, 3), (x, op) -> x.time(op, 13));
        noOp(19, (x, op) -> x.quick(op, 3), (x, op) -> x.quick(op, 0));
        noOp(23, (x, op) -> x.life(op, 3, 0), (x, op) -> x.life(op, 0, 6));
        noOp(25, (x, op) -> x.flat(op, 0, 3, 1), (x, op) -> x.flat(op, -1, 0, 41));
        noOp(28, (x, op) -> x.comes(op, 3, 1), (x, op) -> x.comes(op, 0, 41));
        noOp(30, (x, op) -> yes(x.gate(op, 0, 3, 1)), (x, op) -> yes(x.gate(op, -1, 0, 41)));
        noOp(34, (x, op) -> x.rotary(op, 3, 1), (x, op) -> x.rotary(op, 0, 0));
        noOp(35, (x, op) -> x.name(op, 0, 0, 3, 1), (x, op) -> x.name(op, -1, -1, 0, 41));
        noOp(43, (x, op) -> x.bare(op, 3, true), (x, op) -> x.bare(op, 13, false));
    }

    static void noUnit(int promise, Asked call, Asked worse) {
        sentence(promise, "IndexOutOfBoundsException", () -> {
            refused(INDEX, call, -1, -2, 3, 4);
            refused(INDEX, worse, -1, -2, 3, 4);
            taken(eight(), call, 0, 1, 2);
            taken(new OverlapMill(), call, 0, 1, 2);
        });
    }

    static void noSuchUnits() {
        noUnit(14, (x, unit) -> x.uses(unit), (x, unit) -> x.uses(unit));
        noUnit(18, (x, unit) -> x.ring(unit, 0, 3), (x, unit) -> x.ring(unit, -1, 0));
        noUnit(42, (x, unit) -> x.idle(unit, 3), (x, unit) -> x.idle(unit, 13));
        noUnit(44, (x, unit) -> x.who(unit, 0, 3), (x, unit) -> x.who(unit, 12, 0));
        noUnit(48, (x, unit) -> x.more(unit), (x, unit) -> x.more(unit));
    }

    static void noSuchOthers() {
        sentence(40, "IndexOutOfBoundsException", () -> {
            refused(INDEX, (x, kind) -> x.faster(kind), -1, 6, 7);
            due(1, () -> Loops.adds(1).faster(LOAD));
            due(1, () -> Loops.adds(1).faster(MULTIPLY));
        });
        sentence(41, "IndexOutOfBoundsException", () -> {
            for (int need : new int[] {-1, 2, 3, 64, LOWEST, HIGHEST}) {
                fails(INDEX, () -> Loops.growth().without(need));
            }
            fails(INDEX, () -> new OverlapMill().without(0));
            fails(INDEX, () -> Loops.adds(8).without(0));
            due(0, () -> Loops.growth().without(1));
        });
    }

    static void badStep(Asked call, Asked worse) {
        refused(ARGUMENT, call, 0, -1, 13, 14);
        refused(ARGUMENT, worse, 0, -1, 13, 14);
        for (int d = 1; d <= 12; d++) {
            int step = d;
            takes(() -> call.by(Loops.adds(1), step));
        }
    }

    static void belowRounds(Asked call) {
        for (int d = 1; d <= 3; d++) {
            int step = d;
            fails(STATE, () -> call.by(Loops.growth(), step));
        }
        for (int d = 4; d <= 12; d++) {
            int step = d;
            takes(() -> call.by(Loops.growth(), step));
        }
        fails(STATE, () -> call.by(PlanEdges.longRing(1), 12));
        fails(STATE, () -> call.by(Loops.unsound(), 1));
        fails(STATE, () -> call.by(Loops.unsound(), 12));
        // The RING is no matter: d does not FIT.
        takes(() -> call.by(Loops.scale(), 1));
    }

    static void noSuchStepOfRounds() {
        String none = "IllegalArgumentException: d is none";
        String state = "IllegalStateException: the loop is not SOUND, or d is less than ROUNDS";
        String likewise = "Exceptions likewise.";
        ofRounds(12, none, state, (x, d) -> x.far(0, 0, d));
        ofRounds(13, likewise, likewise, (x, d) -> x.height(0, d));
        ofRounds(13, "IllegalArgumentException", "IllegalStateException", (x, d) -> x.height(0, d));
        ofRounds(19, none, state, (x, d) -> x.quick(0, d));
        ofRounds(20, likewise, likewise, (x, d) -> x.moves(d));
        ofRounds(20, "IllegalArgumentException", "IllegalStateException", (x, d) -> x.moves(d));
        ofRounds(43, none, state, (x, d) -> x.bare(0, d, false));
        ofRounds(43, none, state, (x, d) -> x.bare(0, d, true));
    }

    static void ofRounds(int promise, String none, String state, Asked call) {
        sentence(promise, none, () -> badStep(call, call));
        sentence(promise, state, () -> belowRounds(call));
    }

    /** For d 1 a MULTIPLY alone asks too much of its UNIT; a ring of 4 leaves no d below 4. */
    static void notFitting(Asked call) {
        fails(STATE, () -> call.by(Loops.scale(), 1));
        takes(() -> call.by(Loops.scale(), 2));
        takes(() -> call.by(Loops.scale(), 12));
        for (int d = 1; d <= 3; d++) {
            int step = d;
            fails(STATE, () -> call.by(Loops.growth(), step));
        }
        takes(() -> call.by(Loops.growth(), 4));
        fails(STATE, () -> call.by(Loops.unsound(), 1));
        fails(STATE, () -> call.by(Loops.unsound(), 12));
        // d is ROUNDS and BY UNITS at least, and does not FIT.
        OverlapMill x = Loops.adds(1);
        x.kind(ADD, 0, 1, 5);
        fails(STATE, () -> call.by(x, 2));
        takes(() -> call.by(x, 3));
    }

    static void ofPlan(int promise, String none, String state, Asked call, Asked worse) {
        sentence(promise, none, () -> badStep(call, worse));
        sentence(promise, state, () -> notFitting(call));
    }

    static void noSuchStepOfPlans() {
        String none = "IllegalArgumentException: d is none";
        String unfit = "IllegalStateException: it does not FIT";
        String stepUnfit = "IllegalStateException: d does not FIT";
        String turns = "IllegalArgumentException: d, n is none";
        String slot = "IllegalArgumentException: d or the SLOT is none";
        ofPlan(17, none, unfit, (x, d) -> x.time(0, d), (x, d) -> x.time(0, d));
        ofPlan(18, slot, "IllegalStateException likewise", (x, d) -> x.ring(0, 0, d), (x, d) -> x.ring(0, d, d));
        ofPlan(22, none, unfit, (x, d) -> x.plan(d, 0), (x, d) -> x.plan(d, 6));
        ofPlan(23, "Exceptions likewise.", "Exceptions likewise.", (x, d) -> x.life(0, d, 0), (x, d) -> x.life(0, d, 5));
        ofPlan(23, "IllegalArgumentException", "IllegalStateException", (x, d) -> x.life(0, d, 5),
                (x, d) -> x.life(0, d, 0));
        ofPlan(24, slot, unfit, (x, d) -> x.alive(0, d), (x, d) -> x.alive(-1, d));
        ofPlan(25, "IllegalArgumentException: d, n is none, or the cycle is below 0", stepUnfit,
                (x, d) -> x.flat(0, 0, d, 1), (x, d) -> x.flat(0, -1, d, 41));
        ofPlan(26, turns, stepUnfit, (x, d) -> x.cycles(d, 1, 0), (x, d) -> x.cycles(d, 41, 3));
        ofPlan(27, "IllegalArgumentException: ROW, place (0 to 63), d or n is none", stepUnfit,
                (x, d) -> x.run(0, 0, d, 1), (x, d) -> x.run(2, 64, d, 41));
        ofPlan(28, "IllegalArgumentException: it is a STORE, d or n is none", stepUnfit, (x, d) -> x.comes(0, d, 1),
                (x, d) -> x.comes(0, d, 41));
        ofPlan(30, "IllegalArgumentException: d, n is none, or there is no such time", stepUnfit,
                (x, d) -> yes(x.gate(0, 0, d, 1)), (x, d) -> yes(x.gate(0, -1, d, 41)));
        ofPlan(31, none, unfit, (x, d) -> x.code(d, false), (x, d) -> x.code(d, true));
        ofPlan(32, turns, stepUnfit, (x, d) -> x.peel(d, 1, false), (x, d) -> x.peel(d, 41, true));
        ofPlan(33, none, unfit, (x, d) -> x.turning(d), (x, d) -> x.turning(d));
        ofPlan(34, "IllegalArgumentException: d or R (1 to 40) is none", stepUnfit, (x, d) -> x.rotary(0, d, 1),
                (x, d) -> x.rotary(0, d, 41));
        ofPlan(35, "d, n is none", stepUnfit, (x, d) -> x.name(0, 0, 0, d, 1), (x, d) -> x.name(0, -1, -1, d, 41));
        ofPlan(42, none, unfit, (x, d) -> x.idle(0, d), (x, d) -> x.idle(0, d));
        ofPlan(44, slot, stepUnfit, (x, d) -> x.who(0, 0, d), (x, d) -> x.who(0, d, d));
        ofPlan(45, turns, stepUnfit, (x, d) -> x.holes(d, 1), (x, d) -> x.holes(d, 41));
        ofPlan(46, "IllegalArgumentException: d, n, m or e is none", stepUnfit, (x, d) -> x.late(d, 1, 1, 1),
                (x, d) -> x.late(d, 41, 0, 10));
        ofPlan(47, none, unfit, (x, d) -> x.pays(d), (x, d) -> x.pays(d));
        sentence(15, none, () -> badStep((x, d) -> yes(x.fits(d)), (x, d) -> yes(x.fits(d))));
        sentence(15, "IllegalStateException: the loop is not SOUND", () -> {
            for (int d = 1; d <= 12; d++) {
                int step = d;
                fails(STATE, () -> yes(Loops.unsound().fits(step)));
                holds(step >= 4, () -> Loops.growth().fits(step));
            }
        });
    }

    static void noSlot(int promise, Asked call, Asked unfit) {
        sentence(promise, "IllegalArgumentException: d or the SLOT is none", () -> {
            refused(ARGUMENT, call, -1, 5, 6, 12);
            // That is told ahead of "does not FIT".
            for (int slot : new int[] {-1, 1, LOWEST, HIGHEST}) {
                fails(ARGUMENT, () -> unfit.by(Loops.scale(), slot));
                fails(ARGUMENT, () -> unfit.by(Loops.unsound(), slot));
            }
            fails(STATE, () -> unfit.by(Loops.scale(), 0));
            taken(Loops.adds(1), call, 0, 1, 2, 3, 4);
            fails(ARGUMENT, () -> call.by(Loops.adds(1), 5));
        });
    }

    static void noSuchSlots() {
        noSlot(18, (x, slot) -> x.ring(0, slot, 5), (x, slot) -> x.ring(0, slot, 1));
        noSlot(24, (x, slot) -> x.alive(slot, 5), (x, slot) -> x.alive(slot, 1));
        noSlot(44, (x, slot) -> x.who(0, slot, 5), (x, slot) -> x.who(0, slot, 1));
        sentence(24, "IllegalArgumentException: d or the SLOT is none", () -> {
            due(0, () -> Loops.adds(1).alive(11, 12));
            fails(ARGUMENT, () -> Loops.adds(1).alive(12, 12));
            fails(ARGUMENT, () -> Loops.adds(1).alive(12, 13));
        });
    }

    /** The call is by d 4, for which growth fits. */
    static void noTurns(int promise, String quote, int least, Asked call) {
        sentence(promise, quote, () -> {
            refused(ARGUMENT, call, -1, -2, 41, 42);
            for (int n = least; n <= 40; n++) {
                int turns = n;
                takes(() -> call.by(Loops.growth(), turns));
            }
            // n is told ahead of "does not FIT": no d below 12 does.
            fails(ARGUMENT, () -> call.by(PlanEdges.longRing(1), 41));
            fails(ARGUMENT, () -> call.by(PlanEdges.longRing(1), -1));
        });
    }

    static void noSuchTurns() {
        noTurns(25, "IllegalArgumentException: d, n is none", 0, (x, n) -> x.flat(0, 0, 4, n));
        noTurns(26, "IllegalArgumentException: d, n is none", 0, (x, n) -> x.cycles(4, n, 0));
        noTurns(27, "d or n is none", 0, (x, n) -> x.run(0, 0, 4, n));
        noTurns(28, "d or n is none", 0, (x, n) -> x.comes(0, 4, n));
        noTurns(29, "IllegalArgumentException: ROW, place or n is none", 0, (x, n) -> x.plain(0, 0, n));
        noTurns(30, "IllegalArgumentException: d, n is none", 1, (x, n) -> yes(x.gate(0, 0, 4, n)));
        noTurns(32, "IllegalArgumentException: d, n is none", 0, (x, n) -> x.peel(4, n, true));
        noTurns(35, "d, n is none", 0, (x, n) -> x.name(0, 0, 0, 4, n));
        noTurns(45, "IllegalArgumentException: d, n is none", 0, (x, n) -> x.holes(4, n));
        noTurns(46, "d, n, m or e is none", 0, (x, n) -> x.late(4, n, 1, 1));
    }

    static void noWhat(int promise, String quote, int most, Asked call, Asked worse) {
        sentence(promise, quote, () -> {
            refused(ELEMENT, call, -1, most + 1, most + 2);
            refused(ELEMENT, worse, -1, most + 1, most + 2);
            for (int what = 0; what <= most; what++) {
                int which = what;
                takes(() -> call.by(Loops.growth(), which));
            }
            fails(ARGUMENT, () -> worse.by(Loops.growth(), 0));
            fails(ARGUMENT, () -> worse.by(Loops.unsound(), most));
        });
    }

    static void noSuchWhat() {
        noWhat(22, "NoSuchElementException: another what", 6, (x, what) -> x.plan(4, what), (x, what) -> x.plan(0, what));
        noWhat(23, "Exceptions likewise.", 5, (x, what) -> x.life(0, 4, what), (x, what) -> x.life(0, 13, what));
        noWhat(23, "NoSuchElementException", 5, (x, what) -> x.life(0, 4, what), (x, what) -> x.life(0, 0, what));
        noWhat(26, "NoSuchElementException: another what", 3, (x, what) -> x.cycles(4, 1, what),
                (x, what) -> x.cycles(4, 41, what));
        sentence(26, "NoSuchElementException: another what", () -> {
            fails(ELEMENT, () -> Loops.unsound().cycles(0, 41, 4));
            fails(ELEMENT, () -> Loops.scale().cycles(1, 1, -1));
        });
    }

    static void ownNumbers() {
        sentence(25, "or the cycle is below 0", () -> {
            refused25(-1, -2, LOWEST);
            due(0, () -> Loops.adds(1).flat(0, 0, 1, 1));
            due(NONE, () -> Loops.adds(1).flat(0, HIGHEST, 1, 40));
        });
        sentence(27, "IllegalArgumentException: ROW, place (0 to 63), d or n is none", () -> {
            cells((x, row) -> x.run(row, 0, 4, 1), (x, place) -> x.run(1, place, 4, 1));
            fails(ARGUMENT, () -> Loops.scale().run(2, 0, 1, 1));
            fails(ARGUMENT, () -> Loops.scale().run(0, 64, 1, 1));
            fails(STATE, () -> Loops.scale().run(0, 63, 1, 1));
        });
        sentence(29, "IllegalArgumentException: ROW, place or n is none", () -> {
            cells((x, row) -> x.plain(row, 0, 1), (x, place) -> x.plain(1, place, 1));
            fails(ARGUMENT, () -> Loops.unsound().plain(0, 64, 1));
        });
        sentence(28, "IllegalArgumentException: it is a STORE", () -> {
            fails(ARGUMENT, () -> Loops.scale().comes(2, 2, 1));
            fails(ARGUMENT, () -> Loops.scale().comes(2, 2, 0));
            fails(ARGUMENT, () -> Loops.scale().comes(2, 1, 1));
            fails(STATE, () -> Loops.scale().comes(1, 1, 1));
            OverlapMill lost = Loops.unsound();
            lost.store(TURN, 0, 0, 0);
            fails(ARGUMENT, () -> lost.comes(1, 1, 1));
            fails(STATE, () -> lost.comes(0, 1, 1));
        });
        sentence(30, "or there is no such time", () -> {
            // STAGES of growth are 1 for d 4: n times.
            fails(ARGUMENT, () -> yes(Loops.growth().gate(0, 40, 4, 40)));
            holds(true, () -> Loops.growth().gate(0, 39, 4, 40));
            fails(ARGUMENT, () -> yes(Loops.growth().gate(0, -1, 4, 40)));
            fails(ARGUMENT, () -> yes(Loops.growth().gate(0, LOWEST, 3, 40)));
            fails(ARGUMENT, () -> yes(Loops.growth().gate(0, HIGHEST, 4, 40)));
            fails(ARGUMENT, () -> yes(Loops.growth().gate(0, 0, 4, 0)));
            // No TURN, no time: that is told ahead of "does not FIT".
            fails(ARGUMENT, () -> yes(Loops.growth().gate(0, 0, 3, 0)));
            fails(STATE, () -> yes(Loops.growth().gate(0, 0, 3, 1)));
        });
        sentence(34, "R (1 to 40) is none", () -> {
            refused(ARGUMENT, (x, r) -> x.rotary(0, 4, r), 0, -1, 41, 42);
            refused(ARGUMENT, (x, r) -> x.rotary(0, 1, r), 0, -1, 41, 42);
            for (int r = 1; r <= 40; r++) {
                int names = r;
                due(0, () -> Loops.growth().rotary(0, 4, names));
                fails(STATE, () -> Loops.growth().rotary(0, 3, names));
            }
        });
        ownNumbersOfName();
        sentence(38, "IllegalArgumentException: k is none", () -> {
            refused(ARGUMENT, (x, k) -> x.fold(k), 0, -1, 5, 6);
            taken(Loops.growth(), (x, k) -> x.fold(k), 1, 2, 3, 4);
        });
        sentence(46, "IllegalArgumentException: d, n, m or e is none", () -> {
            refused(ARGUMENT, (x, m) -> x.late(4, 1, m, 1), 0, -1, 10, 11);
            refused(ARGUMENT, (x, e) -> x.late(4, 1, 1, e), 0, -1, 10, 11);
            refused(ARGUMENT, (x, m) -> x.late(1, 1, m, 1), 0, 10);
            refused(ARGUMENT, (x, e) -> x.late(1, 1, 1, e), 0, 10);
            taken(Loops.growth(), (x, m) -> x.late(4, 1, m, 10 - m), 1, 2, 3, 4, 5, 6, 7, 8, 9);
        });
        sentence(49, "IllegalArgumentException: r is none (0 to 99)", () -> {
            refused(ARGUMENT, (x, r) -> x.squeeze(r), -1, -2, 100, 101);
            for (int r = 0; r <= 99; r++) {
                int names = r;
                due(names < 2 ? NONE : 4, () -> Loops.growth().squeeze(names));
            }
        });
        sentence(40, "or its LATENCY is 1", () -> {
            int[] first = {1, 1, 3, 1, 2, 1};
            for (int i = 0; i < 6; i++) {
                int kind = i;
                if (first[i] == 1) {
                    fails(STATE, () -> new OverlapMill().faster(kind));
                } else {
                    due(1, () -> new OverlapMill().faster(kind));
                }
                OverlapMill x = new OverlapMill();
                x.kind(kind, 0, 2, 1);
                due(1, () -> x.faster(kind));
                x.kind(kind, 0, 1, 1);
                fails(STATE, () -> x.faster(kind));
            }
        });
    }

    static void refused25(int... cycles) {
        for (int cycle : cycles) {
            fails(ARGUMENT, () -> Loops.scale().flat(0, cycle, 2, 1));
            fails(ARGUMENT, () -> Loops.scale().flat(0, cycle, 1, 1));
            fails(ARGUMENT, () -> Loops.unsound().flat(0, cycle, 1, 1));
        }
    }

    static void cells(Asked byRow, Asked byPlace) {
        refused(ARGUMENT, byRow, -1, 2, 3);
        refused(ARGUMENT, byPlace, -1, 64, 65);
        taken(Loops.growth(), byRow, 0, 1);
        for (int place = 0; place < 64; place++) {
            taken(Loops.growth(), byPlace, place);
        }
    }

    static void ownNumbersOfName() {
        sentence(35, "IllegalArgumentException: it is a STORE", () -> {
            fails(ARGUMENT, () -> Loops.scale().name(2, 0, 0, 2, 1));
            fails(ARGUMENT, () -> Loops.scale().name(2, 0, 0, 1, 1));
            OverlapMill lost = Loops.unsound();
            lost.store(TURN, 0, 0, 0);
            fails(ARGUMENT, () -> lost.name(1, 0, 0, 1, 1));
            fails(STATE, () -> lost.name(0, 0, 0, 1, 1));
        });
        sentence(35, "there is no such NAME (PAIRED)", () -> {
            // PAIRED of the second SUBTRACT is 4, its COPIES are 3; that of the second ADD is 1.
            OverlapMill x = RunEdges.manyNames(1);
            for (int k = 0; k < 4; k++) {
                int name = k;
                due(0, () -> x.name(4, name, 0, 1, 1));
            }
            fails(ARGUMENT, () -> x.name(4, 4, 0, 1, 1));
            fails(ARGUMENT, () -> x.name(4, -1, 0, 1, 1));
            fails(ARGUMENT, () -> x.name(2, 1, 0, 1, 1));
            due(0, () -> x.name(2, 0, 0, 1, 1));
            fails(ARGUMENT, () -> x.name(4, HIGHEST, 0, 1, 1));
            fails(ARGUMENT, () -> x.name(4, LOWEST, 0, 1, 1));
            fails(ARGUMENT, () -> Loops.scale().name(0, -1, 0, 1, 1));
        });
        sentence(35, "or the cycle is below 0 or above CYCLES", () -> {
            OverlapMill x = Loops.scale();
            int[][] ends = {{1, 6}, {2, 8}, {40, 84}};
            for (int[] one : ends) {
                takes(() -> x.name(0, 0, one[1], 2, one[0]));
                fails(ARGUMENT, () -> x.name(0, 0, one[1] + 1, 2, one[0]));
                fails(ARGUMENT, () -> x.name(0, 0, -1, 2, one[0]));
                fails(ARGUMENT, () -> x.name(0, 0, HIGHEST, 2, one[0]));
            }
            // CYCLES are 0 for no TURN, whatever d is.
            due(0, () -> x.name(0, 0, 0, 2, 0));
            fails(ARGUMENT, () -> x.name(0, 0, 1, 2, 0));
            fails(ARGUMENT, () -> x.name(0, 0, 1, 1, 0));
            fails(STATE, () -> x.name(0, 0, 0, 1, 0));
            fails(STATE, () -> x.name(0, 0, 1, 1, 1));
            fails(ARGUMENT, () -> x.name(0, 0, -1, 1, 1));
        });
    }

    static void notSound() {
        String quote = "IllegalStateException: the loop is not SOUND";
        sentence(29, quote, () -> fails(STATE, () -> Loops.unsound().plain(0, 0, 0)));
        sentence(36, quote, () -> {
            fails(STATE, () -> Loops.unsound().rate(false));
            fails(STATE, () -> Loops.unsound().rate(true));
        });
        sentence(37, quote, () -> fails(STATE, () -> Loops.unsound().critical()));
        sentence(38, quote, () -> {
            for (int k = 1; k <= 4; k++) {
                int fold = k;
                fails(STATE, () -> Loops.unsound().fold(fold));
            }
        });
        sentence(39, quote, () -> fails(STATE, () -> Loops.unsound().bestFold()));
        sentence(40, quote, () -> {
            fails(STATE, () -> Loops.unsound().faster(MULTIPLY));
            fails(STATE, () -> Loops.unsound().faster(ADD));
        });
        sentence(41, quote, () -> {
            fails(STATE, () -> Loops.unsound().without(0));
            fails(STATE, () -> Loops.unsound().without(-1));
            fails(STATE, () -> Loops.unsound().without(HIGHEST));
        });
        sentence(48, quote, () -> {
            for (int unit = 0; unit < 3; unit++) {
                int asked = unit;
                fails(STATE, () -> Loops.unsound().more(asked));
            }
        });
        sentence(49, quote, () -> {
            fails(STATE, () -> Loops.unsound().squeeze(0));
            fails(STATE, () -> Loops.unsound().squeeze(99));
        });
    }

    static void inGeneral() {
        terms("IndexOutOfBoundsException: there is no such OP, UNIT, KIND, NEED", () -> {
            fails(INDEX, () -> Loops.adds(7).op(7, 0));
            fails(INDEX, () -> Loops.adds(7).uses(3));
            refuses(INDEX, () -> Loops.adds(7).kind(6, 0, 1, 1));
            fails(INDEX, () -> Loops.adds(7).need(0, 0));
        });
        terms("IllegalArgumentException: a number is none", () -> {
            fails(ARGUMENT, () -> Loops.adds(7).fold(0));
            fails(ARGUMENT, () -> Loops.adds(7).squeeze(100));
        });
        terms("IllegalStateException: the loop is not SOUND, d does not FIT, or it cannot be", () -> {
            fails(STATE, () -> Loops.unsound().least());
            fails(STATE, () -> Loops.scale().time(0, 1));
            fails(STATE, () -> new OverlapMill().drop());
            fails(STATE, () -> Loops.growth().faster(ADD));
        });
        terms("Of several exceptions the one told first is thrown", () -> {
            OverlapMill x = Loops.unsound();
            // INDEX, ELEMENT, ARGUMENT and STATE are all due at once, then one less each time.
            fails(INDEX, () -> x.life(1, 0, 6));
            fails(ELEMENT, () -> x.life(0, 0, 6));
            fails(ARGUMENT, () -> x.life(0, 0, 5));
            fails(STATE, () -> x.life(0, 1, 5));
            fails(STATE, () -> x.need(1, 4));
            fails(INDEX, () -> Loops.adds(1).need(0, 4));
            fails(STATE, () -> x.without(5));
            fails(ELEMENT, () -> x.plan(0, 7));
            fails(ARGUMENT, () -> x.plan(0, 6));
            fails(STATE, () -> x.plan(1, 6));
            fails(INDEX, () -> x.op(1, 6));
            fails(INDEX, () -> x.faster(6));
            fails(ARGUMENT, () -> Loops.adds(8).load(2, 0));
            fails(STATE, () -> Loops.adds(8).load(1, 0));
            fails(INDEX, () -> x.first(1, 10000));
            fails(INDEX, () -> x.unit(3, 0));
        });
        sentence(51, "An object is used for at most 512 calls after it has been made; what later calls answer is free", () -> {
            OverlapMill x = Loops.scale();
            // Three calls told it; the 508 behind them go by all d, and the last one is the 512th.
            for (int i = 0; i < 508; i++) {
                int d = 2 + i % 11;
                due(0, () -> x.time(0, d));
            }
            due(354, () -> x.run(1, 39, 2, 40));
        });
        terms("a call that throws changes nothing", ThrowEdges::nothingIsChanged);
        terms("Whatever is asked is by OPS, KINDS, UNITS as they are now", ThrowEdges::asTheyAreNow);
    }

    static void nothingIsChanged() {
        OverlapMill[] loops = {Loops.scale(), Loops.growth(), eight(), Loops.unsound(), new OverlapMill(),
            RunEdges.manyNames(2)};
        for (OverlapMill x : loops) {
            String before = Picture.of(x);
            int tried = 0;
            for (Runnable call : Picture.refusedCalls(x)) {
                String got = answerOf(() -> did(call));
                compare("true", String.valueOf(got.endsWith("Exception")));
                tried++;
            }
            compare("true", String.valueOf(tried > 20));
            compare(before, Picture.of(x));
        }
    }

    /** All is asked ahead of each change, so that whatever an object keeps would be old behind it. */
    static void asTheyAreNow() {
        OverlapMill x = new OverlapMill();
        for (int i = 0; i < Picture.CHANGES; i++) {
            Picture.change(x, i);
            OverlapMill y = new OverlapMill();
            for (int k = 0; k <= i; k++) {
                Picture.change(y, k);
            }
            compare(Picture.of(y), Picture.of(x));
            // Asked once more, it is the same.
            compare(Picture.of(y), Picture.of(y));
        }
        // The same d is asked for ahead of a change and behind it, with nothing between.
        OverlapMill far = Loops.growth();
        due(3, () -> far.far(0, 1, 6));
        far.kind(MULTIPLY, 1, 5, 3);
        due(5, () -> far.far(0, 1, 6));
        far.kind(MULTIPLY, 1, 1, 3);
        due(1, () -> far.height(0, 6));
        due(1, () -> far.bare(1, 6, false));
        due(1, () -> far.quick(1, 6));
        far.kind(MULTIPLY, 1, 4, 3);
        due(4, () -> far.quick(1, 6));
        due(4, () -> far.time(1, 6));
        far.kind(MULTIPLY, 1, 2, 3);
        due(2, () -> far.time(1, 6));
        // OP 0 was held by OP 1 and is no more.
        OverlapMill back = new OverlapMill();
        back.reckon(ADD, 1, 1, TURN, 0);
        back.load(0, 0);
        due(1, () -> back.time(0, 1));
        back.kind(LOAD, 2, 1, 1);
        due(0, () -> back.time(0, 1));
        // QUICK by another d, and of a loop that was another one.
        OverlapMill z = Loops.adds(1);
        due(1, () -> z.quickest());
        z.unit(0, 2);
        due(1, () -> z.quickest());
        z.kind(ADD, 0, 1, 15);
        due(2, () -> z.quickest());
        due(NONE, () -> z.moves(1));
        z.kind(ADD, 0, 1, 1);
        due(1, () -> z.moves(1));
        due(1, () -> z.quickest());
    }
}
