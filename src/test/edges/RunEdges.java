/** What follows from the FIRST PLAN: promises 22 to 35 and 45 to 47 and their words in part 3 of "Terms". */
final class RunEdges extends Edge {
    private RunEdges() {
    }

    static void go() {
        stages();
        lives();
        names();
        loose();
        flat();
        headRingTail();
        running();
        namesInTime();
        pays();
        gates();
        code();
        peel();
        rotary();
        turning();
        holes();
        late();
        asking();
    }

    static void stages() {
        terms("By the FIRST PLAN for a d. SPAN: the greatest TIME and LATENCY", () -> {
            due(0, () -> new OverlapMill().plan(1, 0));
            due(6, () -> Loops.scale().plan(2, 0));
            due(26, () -> Loops.scale().plan(12, 0));
            // The first OP begins no later than the second one, but ends behind it.
            OverlapMill x = Loops.single(LOAD);
            x.kind(LOAD, 2, 6, 1);
            x.reckon(ADD, TURN, 0, TURN, 0);
            due(6, () -> x.plan(1, 0));
        });
        terms("STAGE of an OP: TIME by d", () -> {
            OverlapMill x = Loops.scale();
            due(0, () -> x.life(0, 2, 0));
            due(1, () -> x.life(1, 2, 0));
            due(2, () -> x.life(2, 2, 0));
            due(2, () -> x.life(2, 12, 0));
            due(0, () -> Loops.growth().life(1, 4, 0));
            due(0, () -> Loops.adds(8).life(7, 8, 0));
            due(1, () -> Loops.behind(0).life(1, 1, 0));
        });
        terms("STAGES: the greatest, and 1", () -> {
            due(1, () -> new OverlapMill().plan(12, 1));
            due(1, () -> Loops.growth().plan(4, 1));
            due(3, () -> Loops.scale().plan(2, 1));
            due(2, () -> Loops.behind(0).plan(1, 1));
        });
    }

    static void lives() {
        terms("LIFE of an OP (no STORE): from TIME and LATENCY on to the last TIME and d times DISTANCE of those"
                + " whose SOURCE it is, both with them: how many cycles", () -> {
            // It comes in the very cycle in which it is used.
            due(1, () -> Loops.scale().life(0, 2, 2));
            due(1, () -> Loops.scale().life(1, 2, 2));
            due(11, () -> Loops.scale().life(0, 12, 2));
            due(11, () -> Loops.scale().life(1, 12, 2));
            // Of several uses the last one: of that two TURNS behind.
            due(3, () -> Loops.longLife().life(0, 1, 2));
            due(5, () -> Loops.longLife().life(0, 2, 2));
            due(1, () -> Loops.circle(1, 1).life(0, 1, 2));
            due(12, () -> Loops.circle(1, 1).life(0, 12, 2));
            due(36, () -> Loops.circle(1, 3).life(0, 12, 2));
            due(1, () -> Loops.circle(6, 3).life(0, 2, 2));
            // The first SOURCE counts as the second one does, and a STORE uses too.
            OverlapMill x = Loops.single(LOAD);
            x.unit(0, 2);
            x.reckon(ADD, 0, 0, 0, 3);
            x.load(1, 0);
            x.store(2, 3, 1, 0);
            times(x, 4, 0, 4, 1, 2);
            due(15, () -> x.life(0, 4, 2));
            due(12, () -> x.life(2, 4, 2));
        });
        terms("(0 if none is)", () -> {
            due(0, () -> Loops.adds(1).life(0, 12, 2));
            due(0, () -> Loops.behind(0).life(1, 1, 2));
            due(0, () -> Loops.scale().life(2, 2, 2));
            due(0, () -> Loops.adds(1).alive(0, 1));
        });
        terms("COPIES: LIFE by d, rounded up (1 at least; of a STORE 0)", () -> {
            int[][] want = {{3, 2, 2, 2, 1}, {2, 2, 2, 3, 2}, {1, 2, 2, 4, 2}, {1, 1, 12, 12, 1}, {1, 3, 12, 36, 3},
                {2, 3, 12, 35, 3}, {1, 3, 1, 3, 3}};
            for (int[] one : want) {
                OverlapMill x = Loops.circle(one[0], one[1]);
                due(one[3], () -> x.life(0, one[2], 2));
                due(one[4], () -> x.life(0, one[2], 3));
            }
            due(1, () -> Loops.adds(1).life(0, 1, 3));
            due(0, () -> Loops.scale().life(2, 2, 3));
        });
        terms("ALIVE at a SLOT: over OPS cycles of LIFE that are that, modulo d", () -> {
            // LIFE 2, 3, 4 of a ring of 2; LIFE 4, 5, 6 of a ring of 3.
            due(2, () -> Loops.circle(2, 2).alive(0, 2));
            due(1, () -> Loops.circle(2, 2).alive(1, 2));
            for (int slot = 0; slot < 3; slot++) {
                int asked = slot;
                due(1, () -> Loops.circle(4, 2).alive(asked, 3));
            }
            // LIFE 5 to 8 of a ring of 4, and LIFE 5 and 6 of one of 3.
            due(1, () -> Loops.circle(5, 2).alive(3, 4));
            int[] want = {1, 0, 1};
            int[] two = {2, 1, 2};
            OverlapMill x = Loops.circle(5, 2);
            OverlapMill y = Loops.circle(5, 2);
            y.unit(0, 2);
            y.kind(SUBTRACT, 0, 4, 1);
            y.reckon(SUBTRACT, 1, 2, NUMBER, 1);
            for (int slot = 0; slot < 3; slot++) {
                int asked = slot;
                due(want[slot], () -> x.alive(asked, 3));
                due(two[slot], () -> y.alive(asked, 3));
            }
        });
    }

    /** COPIES m and 3, 1, 1, 2, 3 and 0 for d 1, if the MULTIPLY has LATENCY m. */
    static OverlapMill manyNames(int m) {
        OverlapMill x = new OverlapMill();
        x.unit(0, 3);
        x.unit(2, 3);
        x.kind(MULTIPLY, 1, m, 1);
        x.kind(SUBTRACT, 2, 1, 1);
        x.reckon(ADD, TURN, 0, TURN, 0);
        x.reckon(MULTIPLY, TURN, 0, TURN, 0);
        x.reckon(ADD, 0, 3, 1, 0);
        x.reckon(SUBTRACT, 3, 2, TURN, 0);
        x.reckon(SUBTRACT, 4, 3, TURN, 0);
        x.store(TURN, 0, 0, 0);
        return x;
    }

    static void names() {
        terms("NAMES: COPIES together", () -> {
            due(0, () -> new OverlapMill().plan(1, 2));
            due(0, () -> Loops.single(STORE).plan(1, 2));
            due(8, () -> Loops.adds(8).plan(8, 2));
            for (int m = 1; m <= 6; m++) {
                OverlapMill x = manyNames(m);
                int want = m + 10;
                due(want, () -> x.plan(1, 2));
            }
        });
        terms("UNROLL: the greatest of COPIES (1 at least)", () -> {
            due(1, () -> new OverlapMill().plan(1, 3));
            due(1, () -> Loops.single(STORE).plan(12, 3));
            due(1, () -> Loops.adds(8).plan(8, 3));
            due(3, () -> Loops.circle(1, 3).plan(1, 3));
            due(9, () -> manyNames(6).plan(1, 3));
        });
        terms("PAIRED: of each OP (0 of a STORE) the least that divides UNROLL and is COPIES at least", () -> {
            int[][] want = {{4, 1, 1, 2, 4, 0}, {5, 1, 1, 5, 5, 0}, {6, 1, 1, 2, 3, 0}, {7, 1, 1, 7, 7, 0},
                {8, 1, 1, 2, 4, 0}, {9, 1, 1, 3, 3, 0}};
            for (int m = 1; m <= 6; m++) {
                OverlapMill x = manyNames(m);
                int sum = 0;
                for (int i = 0; i < 6; i++) {
                    int op = i;
                    sum += want[m - 1][op];
                    due(want[m - 1][op], () -> x.life(op, 1, 4));
                }
                int together = sum;
                due(together, () -> x.plan(1, 4));
            }
            due(0, () -> new OverlapMill().plan(1, 4));
        });
    }

    static void loose() {
        terms("LOOSE of an OP by d: by how many cycles its TIME in the FIRST PLAN could be more, so that all NEEDS"
                + " to others are still so (RING aside)", () -> {
            due(0, () -> Loops.scale().life(0, 2, 5));
            due(10, () -> Loops.scale().life(0, 12, 5));
            due(10, () -> Loops.scale().life(1, 12, 5));
            due(99, () -> Loops.scale().life(2, 12, 5));
            due(0, () -> Loops.growth().life(0, 4, 5));
            due(0, () -> Loops.growth().life(1, 4, 5));
            due(8, () -> Loops.growth().life(1, 12, 5));
            // A NEED to itself does not hold it, the least of several to others does.
            due(99, () -> Loops.circle(6, 3).life(0, 2, 5));
            OverlapMill x = Loops.adds(1);
            x.unit(0, 3);
            x.reckon(ADD, 0, 1, TURN, 0);
            x.reckon(ADD, 0, 3, TURN, 0);
            due(3, () -> x.life(0, 4, 5));
        });
        terms("99 at most", () -> {
            // The STORE begins at 12; the LOAD may be 7 times 12, and LATENCY less 1, behind that.
            int[][] want = {{1, 96}, {3, 98}, {4, 99}, {5, 99}, {6, 99}};
            for (int[] one : want) {
                OverlapMill x = new OverlapMill();
                x.unit(2, 3);
                x.kind(STORE, 2, one[0], 1);
                x.kind(MULTIPLY, 1, 6, 1);
                x.load(0, 7);
                x.reckon(MULTIPLY, TURN, 0, TURN, 0);
                x.store(1, 0, 0, 0);
                due(12, () -> x.time(2, 12));
                due(one[1], () -> x.life(0, 12, 5));
                due(6, () -> x.life(1, 12, 5));
                due(99, () -> x.life(2, 12, 5));
            }
        });
    }

    static void flat() {
        terms("FLAT for n TURNS (0 to 40): TURN i of an OP begins at cycle TIME and d times i", () -> {
            OverlapMill x = Loops.scale();
            int[][] want = {{5, 40, 0}, {4, 40, NONE}, {6, 40, NONE}, {3, 40, NONE}, {83, 40, 39}, {84, 40, NONE},
                {85, 40, NONE}, {5, 1, 0}, {7, 1, NONE}, {7, 2, 1}, {5, 0, NONE}, {0, 40, NONE},
                {HIGHEST, 40, NONE}};
            for (int[] one : want) {
                due(one[2], () -> x.flat(2, one[0], 2, one[1]));
            }
            due(0, () -> x.flat(0, 0, 2, 1));
            due(39, () -> Loops.adds(1).flat(0, 468, 12, 40));
            due(NONE, () -> Loops.adds(1).flat(0, 480, 12, 40));
            fails(ARGUMENT, () -> x.flat(2, 5, 2, 41));
            fails(ARGUMENT, () -> x.flat(2, 5, 2, -1));
        });
        terms("CYCLES: d times n less 1, and SPAN (0 for no TURN)", () -> {
            OverlapMill x = Loops.scale();
            due(0, () -> x.cycles(2, 0, 0));
            due(6, () -> x.cycles(2, 1, 0));
            due(8, () -> x.cycles(2, 2, 0));
            due(84, () -> x.cycles(2, 40, 0));
            due(494, () -> x.cycles(12, 40, 0));
            due(0, () -> new OverlapMill().cycles(12, 1, 0));
            due(468, () -> new OverlapMill().cycles(12, 40, 0));
        });
    }

    static void headRingTail() {
        terms("HEAD are those ahead of d times (STAGES less 1)", () -> {
            due(4, () -> Loops.scale().cycles(2, 3, 1));
            due(4, () -> Loops.scale().cycles(2, 40, 1));
            due(0, () -> Loops.growth().cycles(4, 40, 1));
            due(0, () -> new OverlapMill().cycles(2, 5, 1));
        });
        terms("the RING d for each of n less STAGES, and 1, behind that", () -> {
            due(2, () -> Loops.scale().cycles(2, 3, 2));
            due(4, () -> Loops.scale().cycles(2, 4, 2));
            due(76, () -> Loops.scale().cycles(2, 40, 2));
            due(160, () -> Loops.growth().cycles(4, 40, 2));
        });
        terms("(up to the last cycle, if there are fewer)", () -> {
            OverlapMill x = Loops.adds(1);
            due(13, () -> x.cycles(12, 2, 0));
            due(13, () -> x.cycles(12, 2, 2));
            due(0, () -> x.cycles(12, 2, 3));
            due(1, () -> x.cycles(12, 1, 2));
            due(469, () -> x.cycles(12, 40, 2));
            due(8, () -> new OverlapMill().cycles(2, 5, 2));
            due(0, () -> new OverlapMill().cycles(2, 1, 2));
            due(12, () -> Loops.scale().cycles(12, 3, 2));
        });
        terms("the TAIL the others", () -> {
            due(4, () -> Loops.scale().cycles(2, 3, 3));
            due(4, () -> Loops.scale().cycles(2, 40, 3));
            due(0, () -> Loops.adds(1).cycles(1, 40, 3));
            due(0, () -> Loops.growth().cycles(4, 3, 3));
        });
        terms("a loop with n below STAGES is SHORT (all of it is HEAD)", () -> {
            int[][] want = {{0, 0, 0, 0}, {6, 6, 0, 0}, {8, 8, 0, 0}, {10, 4, 2, 4}};
            for (int n = 0; n < 4; n++) {
                for (int what = 0; what < 4; what++) {
                    int turns = n;
                    int which = what;
                    due(want[n][what], () -> Loops.scale().cycles(2, turns, which));
                }
            }
            due(2, () -> Loops.scale().peel(2, 2, false));
            due(0, () -> Loops.scale().peel(2, 3, false));
        });
    }

    static void running() {
        terms("RUN: cycle by cycle: what a STORE, or another OP that began LATENCY ahead, comes to is put", () -> {
            // The STORE of TURN 0 is put when the LOAD of the same place of TURN 1 looks.
            OverlapMill x = new OverlapMill();
            x.kind(STORE, 2, 4, 1);
            x.unit(2, 2);
            x.load(0, 0);
            x.reckon(ADD, 0, 0, NUMBER, 1);
            x.store(1, 0, 0, 1);
            due(7, () -> x.least());
            for (int n = 0; n <= 40; n += 8) {
                int turns = n;
                due(n == 0 ? 4 : 2, () -> x.run(0, 1, 7, turns));
                due(n == 40 ? 41 : 121, () -> x.run(0, 40, 7, turns));
                due(124, () -> x.run(0, 41, 7, turns));
            }
        });
        terms("then OPS that begin look at their SOURCES", () -> {
            OverlapMill x = Loops.scale();
            for (int n = 0; n <= 40; n++) {
                int turns = n;
                due(n == 0 ? -5 : 3, () -> x.run(1, 0, 2, turns));
                due(n == 40 ? 354 : 268, () -> x.run(1, 39, 2, turns));
                due(275, () -> x.run(1, 40, 2, turns));
            }
        });
        terms("LOADS at their ROWS", () -> {
            // The STORE begins ahead of the LOAD but is put behind it: the LOAD sees what was there.
            OverlapMill x = new OverlapMill();
            x.kind(STORE, 2, 6, 1);
            x.kind(LOAD, 1, 1, 1);
            x.load(0, 0);
            x.store(NUMBER, 9, 0, 0);
            x.store(0, 0, 1, 0);
            due(1, () -> x.run(1, 0, 2, 40));
            due(118, () -> x.run(1, 39, 2, 40));
            due(9, () -> x.run(0, 39, 2, 40));
            due(121, () -> x.run(0, 40, 2, 40));
        });
        terms("PLAIN: the same TURN by TURN as the LOOP", () -> {
            OverlapMill x = Loops.scale();
            for (int n = 0; n <= 40; n++) {
                int turns = n;
                due(n == 0 ? -5 : 3, () -> x.plain(1, 0, turns));
                due(n == 40 ? 354 : 268, () -> x.plain(1, 39, turns));
                due(275, () -> x.plain(1, 40, turns));
            }
            // No d fits, and PLAIN runs all the same.
            OverlapMill none = PlanEdges.longRing(1);
            none.drop();
            none.reckon(ADD, 6, 0, NUMBER, 1);
            due(190, () -> none.plain(0, 63, 40));
            due(NONE, () -> none.least());
        });
        terms("CYCLES: LATENCIES together for each TURN", () -> {
            due(12, () -> Loops.scale().peel(2, 2, true));
            due(6, () -> Loops.scale().peel(2, 1, true));
            due(0, () -> Loops.scale().peel(2, 0, true));
            due(2, () -> Loops.scale().pays(2));
        });
    }

    static void namesInTime() {
        terms("(in its ROW; in its NAME: of PAIRED the one of TURN modulo that), by OPS", () -> {
            OverlapMill x = Loops.longLife();
            // TURN i comes in cycle 2 and i and is put in NAME i modulo 3; the row is 1, 4, 7, 10, 13.
            int[][] want = {{0, 0, 0}, {0, 0, 0}, {1, 0, 0}, {1, 4, 0}, {1, 4, 7}, {10, 4, 7}, {10, 13, 7},
                {10, 13, 7}};
            for (int cycle = 0; cycle < 8; cycle++) {
                for (int k = 0; k < 3; k++) {
                    int at = cycle;
                    int name = k;
                    due(want[cycle][k], () -> x.name(0, name, at, 1, 5));
                }
            }
            fails(ARGUMENT, () -> x.name(0, 3, 7, 1, 5));
            fails(ARGUMENT, () -> x.name(0, 0, 8, 1, 5));
            // TURNS come d cycles apart: with d 2 TURN 1 comes in cycle 4.
            OverlapMill y = Loops.scale();
            int[] loads = {0, 0, 1, 1, 4, 4, 7, 7, 7, 7, 7};
            for (int cycle = 0; cycle < loads.length; cycle++) {
                int at = cycle;
                due(loads[cycle], () -> y.name(0, 0, at, 2, 3));
            }
        });
        terms("(NAMES of an OP hold its FIRST value at first)", () -> {
            OverlapMill x = Loops.longLife();
            x.first(0, -9999);
            for (int k = 0; k < 3; k++) {
                int name = k;
                due(-9999, () -> x.name(0, name, 0, 1, 0));
                due(-9999, () -> x.name(0, name, 1, 1, 40));
                due(k == 0 ? 1 : -9999, () -> x.name(0, name, 2, 1, 40));
            }
            due(-9998, () -> x.comes(1, 1, 1));
            due(-9995, () -> x.comes(1, 1, 2));
            due(8, () -> x.comes(1, 1, 3));
        });
    }

    static void pays() {
        terms("PAYS: the least n (1 to 40) for which FLAT has fewer CYCLES than PLAIN", () -> {
            OverlapMill both = Loops.adds(2);
            both.unit(0, 2);
            due(1, () -> both.pays(1));
            due(2, () -> Loops.scale().pays(2));
            // 12 times n less 1, and SPAN, against 13 times n: SPAN 51 is below that from 40 on.
            due(40, () -> slots(3, 3, 3).pays(12));
            due(51, () -> slots(3, 3, 3).plan(12, 0));
        });
        terms("for which FLAT has fewer CYCLES than PLAIN; none", () -> {
            due(NONE, () -> Loops.adds(1).pays(1));
            due(NONE, () -> new OverlapMill().pays(1));
            due(NONE, () -> new OverlapMill().pays(12));
            due(NONE, () -> Loops.scale().pays(12));
            due(52, () -> slots(3, 2, 4).plan(12, 0));
            due(13, () -> slots(3, 2, 4).count(5));
            due(NONE, () -> slots(3, 2, 4).pays(12));
        });
    }

    /** Five OPS one behind another, each in SLOT 0 of 12: LOAD 2, ADD 2, SUBTRACT, LEAST, MULTIPLY. */
    static OverlapMill slots(int subtract, int least, int multiply) {
        OverlapMill x = new OverlapMill();
        x.unit(0, 3);
        x.kind(ADD, 0, 2, 1);
        x.kind(SUBTRACT, 0, subtract, 1);
        x.kind(LEAST, 0, least, 1);
        x.kind(MULTIPLY, 1, multiply, 1);
        x.load(0, 0);
        x.reckon(ADD, 0, 0, TURN, 0);
        x.reckon(SUBTRACT, 1, 0, TURN, 0);
        x.reckon(LEAST, 2, 0, TURN, 0);
        x.reckon(MULTIPLY, 3, 0, TURN, 0);
        return x;
    }

    static void gates() {
        terms("GATED for n TURNS: the RING alone goes round n and STAGES, less 1, times (0 for no TURN)", () -> {
            OverlapMill x = Loops.scale();
            int[] turns = {1, 4, 40};
            for (int n : turns) {
                holds(true, () -> x.gate(2, n + 1, 2, n));
                fails(ARGUMENT, () -> x.gate(2, n + 2, 2, n) ? 1 : 0);
                fails(ARGUMENT, () -> x.gate(2, -1, 2, n) ? 1 : 0);
                fails(ARGUMENT, () -> x.gate(2, HIGHEST, 2, n) ? 1 : 0);
                holds(true, () -> Loops.adds(1).gate(0, n - 1, 1, n));
                fails(ARGUMENT, () -> Loops.adds(1).gate(0, n, 1, n) ? 1 : 0);
            }
            // With no TURN it does not go round at all, whatever STAGES are.
            fails(ARGUMENT, () -> x.gate(0, 0, 2, 0) ? 1 : 0);
            fails(ARGUMENT, () -> x.gate(0, 1, 2, 0) ? 1 : 0);
            fails(ARGUMENT, () -> Loops.adds(1).gate(0, 0, 1, 0) ? 1 : 0);
        });
        terms("an OP begins only while its GATE is open: in the r-th time (0 on) if r less its STAGE is one of the"
                + " TURNS", () -> {
            OverlapMill x = Loops.scale();
            for (int stage = 0; stage < 3; stage++) {
                for (int r = 0; r < 6; r++) {
                    int op = stage;
                    int time = r;
                    holds(r >= stage && r < stage + 4, () -> x.gate(op, time, 2, 4));
                }
            }
            for (int r = 0; r < 3; r++) {
                int time = r;
                holds(r == 1, () -> x.gate(1, time, 2, 1));
            }
        });
    }

    static void code() {
        terms("CODE: GATED: as many words as OPS", () -> {
            due(0, () -> new OverlapMill().code(1, true));
            due(8, () -> Loops.adds(8).code(8, true));
            due(3, () -> Loops.scale().code(2, true));
        });
        terms("FLAT: words of HEAD (each OP as often as STAGES less 1 less its STAGE), UNROLL times all OPS, and of"
                + " TAIL (each OP as often as its STAGE)", () -> {
            due(0, () -> new OverlapMill().code(1, false));
            due(1, () -> Loops.adds(1).code(1, false));
            due(3, () -> Loops.circle(1, 3).code(1, false));
            due(9, () -> Loops.scale().code(2, false));
            due(10, () -> Loops.longLife().code(1, false));
            due(8, () -> Loops.longLife().code(2, false));
            due(1, () -> Loops.single(STORE).code(12, false));
        });
    }

    static void peel() {
        terms("PEEL for n TURNS: how many go PLAIN ahead so that the RING of the others goes round a multiple of"
                + " UNROLL times: all, if they are SHORT", () -> {
            // STAGES 3 and UNROLL 3.
            due(0, () -> Loops.longLife().peel(1, 0, false));
            due(1, () -> Loops.longLife().peel(1, 1, false));
            due(2, () -> Loops.longLife().peel(1, 2, false));
        });
        terms("else n less STAGES, and 1, modulo UNROLL", () -> {
            int[][] want = {{3, 1}, {4, 2}, {5, 0}, {6, 1}, {39, 1}, {40, 2}};
            for (int[] one : want) {
                due(one[1], () -> Loops.longLife().peel(1, one[0], false));
            }
            // UNROLL 1: none goes ahead, but if all do.
            due(0, () -> Loops.scale().peel(2, 3, false));
            due(0, () -> Loops.scale().peel(2, 40, false));
            // STAGES 1 and UNROLL 3.
            int[] circle = {0, 1, 2, 0, 1};
            for (int n = 0; n < circle.length; n++) {
                int turns = n;
                due(circle[n], () -> Loops.circle(1, 3).peel(1, turns, false));
            }
            // STAGES 2 and UNROLL 3: the sign of STAGES can be seen.
            due(2, () -> Loops.longLife().plan(2, 1));
            due(0, () -> Loops.longLife().peel(2, 4, false));
            due(1, () -> Loops.longLife().peel(2, 5, false));
        });
        terms("CYCLES with PEEL: those of PLAIN for these, of FLAT for the others", () -> {
            int[][] want = {{0, 0}, {1, 3}, {2, 6}, {3, 7}, {4, 10}, {5, 7}, {40, 46}};
            for (int[] one : want) {
                due(one[1], () -> Loops.longLife().peel(1, one[0], true));
            }
            // All go ahead though they are not SHORT, and no TURN is left for FLAT.
            due(1, () -> Loops.circle(1, 3).peel(1, 1, true));
            due(2, () -> Loops.circle(1, 3).peel(1, 2, true));
            due(3, () -> Loops.circle(1, 3).peel(1, 3, true));
            due(40, () -> Loops.circle(1, 3).peel(1, 40, true));
        });
    }

    /** ADDS one behind another, side by side in one SLOT. */
    static OverlapMill steps(int many) {
        OverlapMill x = Loops.adds(1);
        x.unit(0, 3);
        x.unit(1, 3);
        x.kind(SUBTRACT, 1, 1, 1);
        for (int op = 1; op < many; op++) {
            x.reckon(op < 3 ? ADD : SUBTRACT, op - 1, 0, TURN, 0);
        }
        return x;
    }

    static void rotary() {
        terms("ROTARY by d: a file of R NAMES that turns: an OP has a place x; its TURN i is in x less i, modulo R,"
                + " over its LIFE", () -> {
            // OP 1 of a TURN lives with OP 0 of the next one, whose place is 1 less: x 1 of 2 would be that.
            due(0, () -> steps(3).rotary(0, 1, 2));
            due(0, () -> steps(3).rotary(1, 1, 2));
            due(NONE, () -> steps(3).rotary(1, 1, 1));
            // OP 2 lives with OP 1 of the next TURN and with OP 0 of that behind it: 2 of 3 and 1 of 3.
            for (int op = 0; op < 3; op++) {
                int asked = op;
                due(0, () -> steps(4).rotary(asked, 1, 3));
                due(op < 2 ? 0 : NONE, () -> steps(4).rotary(asked, 1, 2));
            }
            due(3, () -> steps(4).turning(1));
        });
        terms("Two OPS (or one with itself) CLASH, if some TURNS of both, not the same of one, are in one place at"
                + " one cycle", () -> {
            // LIFE of d times R cycles is just not too long.
            int[][] want = {{1, 3, 1, 3}, {1, 3, 12, 3}, {1, 1, 12, 1}, {2, 3, 12, 3}, {1, 2, 5, 2}};
            for (int[] one : want) {
                OverlapMill x = Loops.circle(one[0], one[1]);
                due(0, () -> x.rotary(0, one[2], one[3]));
                due(one[3], () -> x.turning(one[2]));
                if (one[3] > 1) {
                    due(NONE, () -> x.rotary(0, one[2], one[3] - 1));
                }
            }
            due(NONE, () -> Loops.longLife().rotary(0, 2, 2));
            due(0, () -> Loops.longLife().rotary(0, 2, 3));
        });
        terms("(TURNS may be below 0)", () -> {
            // OP 0 is late by its LATENCY: OP 1 meets TURNS of it that are below its own.
            OverlapMill x = new OverlapMill();
            x.unit(0, 3);
            x.unit(1, 3);
            x.kind(MULTIPLY, 1, 3, 1);
            x.reckon(MULTIPLY, TURN, 0, TURN, 0);
            x.reckon(ADD, TURN, 0, TURN, 0);
            x.reckon(ADD, 0, 0, TURN, 0);
            x.reckon(ADD, 1, 0, TURN, 0);
            // TURN i of OP 0 lives in 3 and i, that of OP 1 in 1 and i: with TURN i less 2 of OP 0.
            due(0, () -> x.rotary(0, 1, 3));
            due(0, () -> x.rotary(1, 1, 3));
            due(1, () -> x.rotary(1, 1, 2));
            due(NONE, () -> x.rotary(1, 1, 1));
        });
        terms("FIRST FIT for R: OP by OP (those with a LIFE of 0 aside) the least place that does not CLASH with"
                + " those ahead, nor with itself", () -> {
            OverlapMill x = Loops.longLife();
            x.unit(0, 2);
            x.unit(2, 2);
            x.load(1, 0);
            x.reckon(ADD, 2, 0, TURN, 0);
            int[][] want = {{2, NONE, NONE, NONE}, {3, 0, NONE, NONE}, {4, 0, NONE, 3}, {5, 0, NONE, 3}, {40, 0, NONE, 3}};
            for (int[] one : want) {
                due(one[1], () -> x.rotary(0, 1, one[0]));
                due(one[2], () -> x.rotary(1, 1, one[0]));
                due(one[3], () -> x.rotary(2, 1, one[0]));
                due(NONE, () -> x.rotary(3, 1, one[0]));
            }
            due(4, () -> x.turning(1));
            // OP 0 has no LIFE and shuts no place.
            OverlapMill y = Loops.adds(1);
            y.unit(0, 2);
            y.load(0, 0);
            y.reckon(ADD, 1, 2, 1, 0);
            due(NONE, () -> y.rotary(0, 1, 3));
            due(0, () -> y.rotary(1, 1, 3));
            due(3, () -> y.turning(1));
        });
    }

    static void turning() {
        terms("TURNING: the least R (1 to 40) for which each OP has one", () -> {
            due(1, () -> new OverlapMill().turning(1));
            due(1, () -> Loops.single(STORE).turning(12));
            due(1, () -> Loops.scale().turning(2));
            due(3, () -> Loops.longLife().turning(1));
            due(40, () -> longWay(5).turning(1));
            due(0, () -> longWay(5).rotary(0, 1, 40));
            due(NONE, () -> longWay(5).rotary(6, 1, 39));
        });
        terms("for which each OP has one; none", () -> {
            due(NONE, () -> longWay(6).turning(1));
            due(NONE, () -> longWay(6).rotary(6, 1, 40));
        });
    }

    /** OP 0 lives 34 cycles (37 for a LATENCY of 6), six others one each; one place each is shut to them. */
    static OverlapMill longWay(int latency) {
        OverlapMill x = new OverlapMill();
        x.unit(0, 3);
        x.unit(1, 3);
        x.unit(2, 2);
        x.kind(ADD, 0, 5, 1);
        x.kind(SUBTRACT, 1, latency, 1);
        x.kind(MULTIPLY, 2, 6, 1);
        x.kind(LEAST, 2, 1, 1);
        x.reckon(MULTIPLY, TURN, 0, TURN, 0);
        for (int op = 1; op < 7; op++) {
            x.reckon(op < 4 ? ADD : SUBTRACT, op - 1, 0, TURN, 0);
        }
        x.reckon(LEAST, 6, 0, 0, 3);
        return x;
    }

    static void holes() {
        terms("HOLES of FLAT for n TURNS: cycles (of CYCLES) in which no OP begins", () -> {
            // TIMES 0, 2, 5 of CYCLES 6; with n 4 all but 1, 3 and the 10th.
            due(0, () -> Loops.scale().holes(2, 0));
            due(3, () -> Loops.scale().holes(2, 1));
            due(3, () -> Loops.scale().holes(2, 4));
            due(11, () -> Loops.adds(1).holes(12, 2));
            due(0, () -> Loops.adds(1).holes(12, 1));
            due(0, () -> Loops.adds(1).holes(1, 40));
            due(429, () -> Loops.adds(1).holes(12, 40));
            due(468, () -> new OverlapMill().holes(12, 40));
            due(0, () -> new OverlapMill().holes(12, 1));
            // The last cycles, in which OPS are still under way, are holes too.
            due(5, () -> Loops.circle(6, 3).holes(2, 1));
        });
    }

    static void late() {
        terms("LATE by m (1 to 9) and e (1 to 9): LOADS of a place that m divides take e cycles more", () -> {
            OverlapMill x = Loops.scale();
            due(1, () -> x.late(2, 1, 1, 1));
            due(9, () -> x.late(2, 1, 9, 9));
            int[][] none = {{0, 1}, {10, 1}, {1, 0}, {1, 10}, {-1, 1}, {1, -1}, {LOWEST, 9}, {9, HIGHEST}};
            for (int[] one : none) {
                fails(ARGUMENT, () -> x.late(2, 1, one[0], one[1]));
            }
            // The place is that of the ROW: PLACE 7 and TURN 2 is the first that 9 divides.
            OverlapMill y = new OverlapMill();
            y.load(0, 7);
            y.reckon(MULTIPLY, 0, 0, NUMBER, 3);
            due(0, () -> y.late(2, 2, 9, 5));
            due(5, () -> y.late(2, 3, 9, 5));
            due(5, () -> y.late(2, 11, 9, 5));
            due(10, () -> y.late(2, 12, 9, 5));
            due(5, () -> y.late(2, 1, 7, 5));
            // Another OP is never late.
            due(0, () -> Loops.growth().late(4, 40, 1, 9));
        });
        terms("ahead of each of its cycles FLAT waits as a whole, till all that OPS that begin in it look at", () -> {
            OverlapMill x = Loops.scale();
            // The LOAD of TURN i begins behind the wait for that of TURN i less 1.
            due(16, () -> x.late(2, 4, 1, 4));
            due(8, () -> x.late(2, 4, 2, 4));
            due(8, () -> x.late(2, 4, 3, 4));
            // Two LOADS that are under way at once are waited for together.
            OverlapMill both = new OverlapMill();
            both.unit(2, 2);
            both.load(0, 0);
            both.load(1, 0);
            both.reckon(MULTIPLY, 0, 0, 1, 0);
            due(20, () -> both.late(2, 4, 1, 5));
            // A STORE looks too, and a second SOURCE.
            OverlapMill stored = Loops.single(LOAD);
            stored.store(0, 0, 1, 0);
            due(5, () -> stored.late(2, 1, 1, 6));
            OverlapMill second = Loops.single(LOAD);
            second.reckon(ADD, NUMBER, 0, 0, 0);
            due(6, () -> second.late(1, 1, 1, 6));
            // OP 0 waits for a LOAD with a greater number.
            OverlapMill back = new OverlapMill();
            back.reckon(ADD, 1, 1, TURN, 0);
            back.load(0, 0);
            due(0, () -> back.late(1, 1, 9, 5));
            due(5, () -> back.late(1, 2, 9, 5));
            // Ten cycles between LOAD and MULTIPLY take up what is late.
            due(0, () -> x.late(12, 40, 1, 9));
        });
        terms("(SOURCES that are OPS, of TURNS that there are)", () -> {
            OverlapMill x = Loops.single(LOAD);
            x.reckon(ADD, 0, 1, TURN, 0);
            due(1, () -> x.time(1, 1));
            due(0, () -> x.late(1, 1, 9, 5));
            due(5, () -> x.late(1, 2, 9, 5));
            OverlapMill y = Loops.single(LOAD);
            y.reckon(ADD, 0, 3, TURN, 0);
            due(0, () -> y.late(1, 3, 9, 5));
            due(4, () -> y.late(1, 4, 9, 5));
            // What is put in a ROW, or a number, is not waited for.
            OverlapMill row = Loops.single(LOAD);
            row.store(NUMBER, 0, 0, 0);
            row.load(0, 1);
            due(0, () -> row.late(3, 40, 1, 9));
        });
        terms("has come: how many cycles it waits in all", () -> {
            due(0, () -> Loops.scale().late(2, 0, 1, 9));
            due(360, () -> Loops.scale().late(2, 40, 1, 9));
            due(0, () -> new OverlapMill().late(1, 40, 1, 9));
        });
    }

    static void asking() {
        sentence(22, "Of the FIRST PLAN what 0 SPAN, 1 STAGES, 2 NAMES, 3 UNROLL, 4 PAIRED together, 5 the most that"
                + " are ALIVE at a SLOT, 6 the SLOT at which, of several the least.", () -> {
            int[] want = {3, 3, 4, 3, 4, 3, 0};
            for (int what = 0; what < 7; what++) {
                int which = what;
                due(want[what], () -> Loops.longLife().plan(1, which));
            }
            // All are ALIVE alike: SLOT 0; one SLOT alone: that, the last one too.
            due(1, () -> Loops.circle(4, 2).plan(3, 5));
            due(0, () -> Loops.circle(4, 2).plan(3, 6));
            OverlapMill last = Loops.adds(2);
            last.reckon(SUBTRACT, 1, 0, TURN, 0);
            due(1, () -> last.plan(3, 5));
            due(2, () -> last.plan(3, 6));
            OverlapMill middle = Loops.adds(1);
            middle.reckon(SUBTRACT, 0, 0, TURN, 0);
            due(1, () -> middle.plan(3, 5));
            due(1, () -> middle.plan(3, 6));
            due(0, () -> Loops.adds(2).plan(12, 5));
            due(0, () -> Loops.adds(2).plan(12, 6));
            // ALIVE 0, 2 and 1: the LIFE of OP 1 is in SLOT 1, that of OP 2 in SLOTS 1 and 2.
            OverlapMill peak = Loops.adds(1);
            peak.kind(SUBTRACT, 0, 3, 1);
            peak.kind(LEAST, 0, 2, 1);
            peak.reckon(SUBTRACT, 1, 1, TURN, 0);
            peak.reckon(LEAST, 2, 1, TURN, 0);
            due(2, () -> peak.plan(3, 5));
            due(1, () -> peak.plan(3, 6));
            OverlapMill first = Loops.circle(2, 2);
            due(2, () -> first.plan(2, 5));
            due(0, () -> first.plan(2, 6));
        });
        sentence(23, "Of an OP in the FIRST PLAN what 0 STAGE, 1 SLOT, 2 LIFE, 3 COPIES, 4 PAIRED, 5 LOOSE.", () -> {
            int[][] want = {{0, 0, 1, 1, 1, 0}, {1, 0, 1, 1, 1, 0}, {2, 1, 0, 0, 0, 99}};
            for (int op = 0; op < 3; op++) {
                for (int what = 0; what < 6; what++) {
                    int asked = op;
                    int which = what;
                    due(want[op][what], () -> Loops.scale().life(asked, 2, which));
                }
            }
        });
        sentence(24, "ALIVE at a SLOT.", () -> {
            due(3, () -> Loops.longLife().alive(0, 2));
            due(2, () -> Loops.longLife().alive(1, 2));
            due(0, () -> new OverlapMill().alive(11, 12));
        });
        sentence(25, "FLAT for n TURNS: which TURN of an OP begins in a cycle; NONE.", () -> {
            due(39, () -> Loops.scale().flat(0, 78, 2, 40));
            due(NONE, () -> Loops.scale().flat(0, 80, 2, 40));
            due(NONE, () -> Loops.scale().flat(0, 77, 2, 40));
        });
        sentence(26, "FLAT for n TURNS: cycles of 0 all (CYCLES), 1 HEAD, 2 RING, 3 TAIL.", () -> {
            int[] want = {84, 4, 76, 4};
            for (int what = 0; what < 4; what++) {
                int which = what;
                due(want[what], () -> Loops.scale().cycles(2, 40, which));
            }
        });
        sentence(27, "RUN of FLAT by d for n TURNS: what is in a ROW at a place then.", () -> {
            due(354, () -> Loops.scale().run(1, 39, 12, 40));
            due(436, () -> Loops.scale().run(1, 63, 12, 40));
            due(1, () -> Loops.scale().run(0, 0, 12, 0));
        });
        sentence(28, "What an OP (no STORE) came to in the last of n TURNS of FLAT (its FIRST value for no TURN).", () -> {
            OverlapMill x = Loops.growth();
            x.first(0, 33);
            x.first(1, 1);
            due(33, () -> x.comes(0, 4, 0));
            due(1, () -> x.comes(1, 4, 0));
            due(2, () -> x.comes(0, 4, 1));
            due(7, () -> x.comes(1, 4, 1));
            due(118, () -> Loops.scale().comes(0, 2, 40));
            due(354, () -> Loops.scale().comes(1, 2, 40));
        });
        sentence(29, "PLAIN for n TURNS: what is in a ROW at a place then.", () -> {
            due(354, () -> Loops.scale().plain(1, 39, 40));
            due(436, () -> Loops.scale().plain(1, 63, 40));
            due(1, () -> Loops.scale().plain(0, 0, 0));
        });
        sentence(30, "Whether the GATE of an OP is open in the r-th time of GATED.", () -> {
            holds(true, () -> Loops.scale().gate(1, 1, 2, 1));
            holds(false, () -> Loops.scale().gate(1, 2, 2, 1));
        });
        sentence(31, "CODE: GATED, or FLAT.", () -> {
            due(2, () -> Loops.longLife().code(1, true));
            due(10, () -> Loops.longLife().code(1, false));
        });
        sentence(32, "PEEL for n TURNS: how many, or (cycles) CYCLES with it.", () -> {
            due(2, () -> Loops.longLife().peel(1, 40, false));
            due(46, () -> Loops.longLife().peel(1, 40, true));
        });
        sentence(33, "TURNING; NONE.", () -> {
            due(40, () -> longWay(5).turning(1));
            due(NONE, () -> longWay(6).turning(1));
        });
        sentence(34, "The place of an OP by FIRST FIT for R; NONE: it has none (its LIFE is 0, or it, or one ahead, has"
                + " none).", () -> {
            due(NONE, () -> Loops.adds(1).rotary(0, 1, 40));
            due(NONE, () -> Loops.scale().rotary(2, 2, 40));
            // OP 0 has no place of 2; OP 2 would have one alone, but none behind that.
            OverlapMill x = Loops.longLife();
            x.unit(0, 2);
            x.unit(2, 2);
            x.load(1, 0);
            x.reckon(ADD, 2, 0, TURN, 0);
            due(NONE, () -> x.rotary(0, 1, 2));
            due(NONE, () -> x.rotary(2, 1, 2));
            due(NONE, () -> x.rotary(2, 1, 3));
            due(3, () -> x.rotary(2, 1, 4));
        });
        sentence(35, "What is in NAME k of an OP (no STORE) in RUN of FLAT behind what is put in a cycle.", () -> {
            due(0, () -> Loops.scale().name(1, 0, 4, 2, 1));
            due(3, () -> Loops.scale().name(1, 0, 5, 2, 1));
            due(354, () -> Loops.scale().name(1, 0, 84, 2, 40));
        });
        sentence(45, "HOLES.", () -> due(3, () -> Loops.scale().holes(2, 2)));
        sentence(46, "LATE for n TURNS.", () -> due(20, () -> Loops.scale().late(2, 20, 1, 1)));
        sentence(47, "PAYS by d; NONE.", () -> {
            due(2, () -> Loops.scale().pays(2));
            due(NONE, () -> Loops.scale().pays(12));
        });
    }
}
