/** What is told, what is SOUND, the LOOP and its NEEDS: promises 1 to 11 and their words in "Terms". */
final class TellEdges extends Edge {
    private TellEdges() {
    }

    static void go() {
        ops();
        kinds();
        units();
        sources();
        rowsAndPlaces();
        soundness();
        values();
        rows();
        sourceNeeds();
        rowNeeds();
        orderOfNeeds();
        newObject();
        appending();
        dropping();
        firstValues();
        tellingKinds();
        tellingUnits();
        askingOps();
        askingSoundness();
        askingNeeds();
    }

    static void ops() {
        terms("OPS, 8 at most, numbered from 0 on as they came", () -> {
            OverlapMill x = new OverlapMill();
            for (int i = 0; i < 8; i++) {
                int number = i;
                due(number, () -> number % 3 == 0 ? x.load(0, 0)
                        : number % 3 == 1 ? x.store(TURN, 0, 0, 0) : x.reckon(ADD, TURN, 0, TURN, 0));
            }
            fails(STATE, () -> x.reckon(ADD, TURN, 0, TURN, 0));
            fails(STATE, () -> x.load(0, 0));
            fails(STATE, () -> x.store(TURN, 0, 0, 0));
            due(8, () -> x.count(0));
            due(LOAD, () -> x.op(6, 0));
            due(STORE, () -> x.op(7, 0));
        });
        terms("0 ADD, 1 SUBTRACT, 2 MULTIPLY, 3 LEAST, 4 LOAD, 5 STORE", () -> {
            OverlapMill x = new OverlapMill();
            int[] want = {10, 4, 21, 3};
            for (int kind = ADD; kind <= LEAST; kind++) {
                x.reckon(kind, NUMBER, 7, NUMBER, 3);
            }
            x.reckon(LEAST, NUMBER, -8, NUMBER, 8);
            x.load(0, 0);
            x.store(NUMBER, 6, 0, 0);
            for (int kind = ADD; kind <= LEAST; kind++) {
                int op = kind;
                due(op, () -> x.op(op, 0));
                due(want[op], () -> x.comes(op, 12, 1));
            }
            due(-8, () -> x.comes(4, 12, 1));
            due(4, () -> x.op(5, 0));
            due(5, () -> x.op(6, 0));
        });
    }

    static void kinds() {
        terms("its UNIT (0 to 2; 0, 0, 1, 0, 2, 2 at first)", () -> {
            int[] first = {0, 0, 1, 0, 2, 2};
            for (int kind = 0; kind < 6; kind++) {
                OverlapMill x = Loops.single(kind);
                for (int unit = 0; unit < 3; unit++) {
                    int asked = unit;
                    int uses = first[kind] == unit ? kind == MULTIPLY ? 2 : 1 : 0;
                    due(uses, () -> x.uses(asked));
                }
                int told = kind;
                for (int unit = 0; unit < 3; unit++) {
                    int to = unit;
                    takes(() -> x.kind(told, to, 1, 15));
                    due(4, () -> x.uses(to));
                }
                refuses(ARGUMENT, () -> x.kind(told, -1, 1, 15));
                refuses(ARGUMENT, () -> x.kind(told, 3, 1, 15));
                due(4, () -> x.uses(2));
            }
        });
        terms("LATENCY (1 to 6; 1, 1, 3, 1, 2, 1)", () -> {
            int[] first = {1, 1, 3, 1, 2, 1};
            for (int kind = 0; kind < 6; kind++) {
                OverlapMill x = Loops.single(kind);
                int told = kind;
                due(first[told], () -> x.count(5));
                for (int latency = 1; latency <= 6; latency++) {
                    int to = latency;
                    takes(() -> x.kind(told, 0, to, 1));
                    due(to, () -> x.count(5));
                }
                refuses(ARGUMENT, () -> x.kind(told, 0, 0, 1));
                refuses(ARGUMENT, () -> x.kind(told, 0, 7, 1));
                due(6, () -> x.count(5));
            }
        });
        terms("BUSY: cycles behind its begin (0 to 3) in which it uses its UNIT, as bits", () -> {
            for (int bit = 0; bit < 4; bit++) {
                OverlapMill x = Loops.adds(1);
                x.kind(ADD, 0, 1, 1 << bit);
                for (int slot = 0; slot < 4; slot++) {
                    int asked = slot;
                    due(slot == bit ? 1 : 0, () -> x.ring(0, asked, 4));
                }
            }
        });
        terms("(1 to 15; 1, 1, 3, 1, 1, 1)", () -> {
            for (int kind = 0; kind < 6; kind++) {
                OverlapMill x = Loops.single(kind);
                int told = kind;
                int unit = kind == MULTIPLY ? 1 : kind < LOAD ? 0 : 2;
                due(1, () -> x.ring(unit, 0, 4));
                due(told == MULTIPLY ? 1 : 0, () -> x.ring(unit, 1, 4));
                due(0, () -> x.ring(unit, 2, 4) + x.ring(unit, 3, 4));
                takes(() -> x.kind(told, 0, 1, 1));
                due(1, () -> x.uses(0));
                takes(() -> x.kind(told, 0, 1, 15));
                due(4, () -> x.uses(0));
                refuses(ARGUMENT, () -> x.kind(told, 0, 1, 0));
                refuses(ARGUMENT, () -> x.kind(told, 0, 1, 16));
                due(4, () -> x.uses(0));
            }
        });
    }

    static void units() {
        terms("UNITS have a COUNT (1 to 3; 1 at first)", () -> {
            OverlapMill x = new OverlapMill();
            for (int unit = 0; unit < 3; unit++) {
                int told = unit;
                due(1, () -> x.count(6 + told));
                due(1, () -> x.unit(told, 1));
                due(1, () -> x.unit(told, 3));
                due(3, () -> x.unit(told, 2));
                fails(ARGUMENT, () -> x.unit(told, 0));
                fails(ARGUMENT, () -> x.unit(told, 4));
                due(2, () -> x.count(6 + told));
            }
        });
    }

    static void sources() {
        terms("KINDS 0 to 3 have two SOURCES: an OP (0 to 7) and a DISTANCE (0 to 3)", () -> {
            int[][] fine = {{0, 0}, {0, 3}, {7, 0}, {7, 3}, {3, 1}};
            int[][] none = {{8, 0}, {-3, 0}, {LOWEST, 0}, {HIGHEST, 0}, {0, -1}, {0, 4}, {7, -1}, {7, 4},
                {0, LOWEST}, {7, HIGHEST}};
            for (int kind = ADD; kind <= LEAST; kind++) {
                sourcesOf(kind, fine, none);
            }
        });
        terms("-1 (the TURN's number; its DISTANCE may be any number, told back as it is)", () -> {
            int[] any = {0, 4, -1, -2, 100, -100, LOWEST, HIGHEST};
            for (int number : any) {
                OverlapMill x = new OverlapMill();
                due(0, () -> x.reckon(ADD, TURN, number, TURN, ~number));
                due(1, () -> x.store(TURN, number, 0, 0));
                due(TURN, () -> x.op(0, 1));
                due(number, () -> x.op(0, 2));
                due(TURN, () -> x.op(0, 3));
                due(~number, () -> x.op(0, 4));
                due(number, () -> x.op(1, 2));
                holds(true, () -> x.isSound());
                due(0, () -> x.count(1));
                due(0, () -> x.comes(0, 1, 1));
                due(78, () -> x.comes(0, 1, 40));
                due(39, () -> x.plain(0, 39, 40));
            }
        });
        terms("-2 with a number (-99 to 99) instead of the DISTANCE", () -> {
            int[][] fine = {{NUMBER, -99}, {NUMBER, 99}, {NUMBER, 0}, {NUMBER, 4}, {NUMBER, -1}};
            int[][] none = {{NUMBER, -100}, {NUMBER, 100}, {NUMBER, LOWEST}, {NUMBER, HIGHEST}};
            for (int kind = ADD; kind <= LEAST; kind++) {
                sourcesOf(kind, fine, none);
            }
            OverlapMill x = new OverlapMill();
            x.reckon(ADD, NUMBER, -99, NUMBER, 99);
            x.reckon(SUBTRACT, NUMBER, -99, NUMBER, 99);
            due(0, () -> x.comes(0, 2, 1));
            due(-198, () -> x.comes(1, 2, 1));
            due(0, () -> x.count(1));
        });
    }

    /** Each pair is tried as the first SOURCE and as the second one of a KIND, and of a STORE. */
    static void sourcesOf(int kind, int[][] fine, int[][] none) {
        for (int[] one : fine) {
            OverlapMill x = new OverlapMill();
            due(0, () -> x.reckon(kind, one[0], one[1], TURN, 0));
            due(1, () -> x.reckon(kind, TURN, 0, one[0], one[1]));
            due(2, () -> x.store(one[0], one[1], 0, 0));
            due(one[0], () -> x.op(0, 1));
            due(one[1], () -> x.op(0, 2));
            due(one[0], () -> x.op(1, 3));
            due(one[1], () -> x.op(1, 4));
            due(one[0], () -> x.op(2, 1));
            due(one[1], () -> x.op(2, 2));
        }
        for (int[] one : none) {
            OverlapMill x = new OverlapMill();
            fails(ARGUMENT, () -> x.reckon(kind, one[0], one[1], TURN, 0));
            fails(ARGUMENT, () -> x.reckon(kind, TURN, 0, one[0], one[1]));
            fails(ARGUMENT, () -> x.store(one[0], one[1], 0, 0));
            due(0, () -> x.count(0));
        }
    }

    static void rowsAndPlaces() {
        int[][] none = {{-1, 0}, {2, 0}, {LOWEST, 0}, {HIGHEST, 0}, {0, -1}, {0, 8}, {1, -1}, {1, 8},
            {1, LOWEST}, {0, HIGHEST}};
        terms("LOAD: a ROW (0, 1) and a PLACE (0 to 7)", () -> {
            OverlapMill x = new OverlapMill();
            for (int i = 0; i < 8; i++) {
                int place = i;
                due(place, () -> x.load(place % 2, place));
                due(place % 2, () -> x.op(place, 1));
                due(place, () -> x.op(place, 2));
            }
            OverlapMill y = new OverlapMill();
            for (int[] one : none) {
                fails(ARGUMENT, () -> y.load(one[0], one[1]));
            }
            due(0, () -> y.count(0));
        });
        terms("STORE: a SOURCE, a ROW and a PLACE", () -> {
            OverlapMill x = new OverlapMill();
            for (int i = 0; i < 8; i++) {
                int place = i;
                due(place, () -> x.store(NUMBER, 5, place % 2, place));
                due(place % 2, () -> x.op(place, 3));
                due(place, () -> x.op(place, 4));
            }
            OverlapMill y = new OverlapMill();
            for (int[] one : none) {
                fails(ARGUMENT, () -> y.store(NUMBER, 5, one[0], one[1]));
            }
            due(0, () -> y.count(0));
        });
    }

    static void soundness() {
        terms("A SOURCE that is an OP with DISTANCE 0 has a lesser number than its OP", () -> {
            for (int distance = 0; distance <= 3; distance++) {
                int apart = distance;
                holds(true, () -> threeAdds(0, apart, TURN).isSound());
                holds(true, () -> threeAdds(TURN, apart, 0).isSound());
                holds(apart > 0, () -> threeAdds(1, apart, TURN).isSound());
                holds(apart > 0, () -> threeAdds(TURN, apart, 1).isSound());
                holds(apart > 0, () -> threeAdds(2, apart, TURN).isSound());
                holds(apart > 0, () -> threeAdds(TURN, apart, 2).isSound());
                OverlapMill x = new OverlapMill();
                x.store(1, apart, 0, 0);
                x.load(0, 0);
                x.store(1, apart, 1, 0);
                holds(apart > 0, () -> x.isSound());
            }
        });
        terms("no SOURCE is a STORE", () -> {
            for (int distance = 0; distance <= 3; distance++) {
                OverlapMill first = Loops.single(STORE);
                first.reckon(ADD, 0, distance, TURN, 0);
                holds(false, () -> first.isSound());
                OverlapMill second = Loops.single(STORE);
                second.reckon(LEAST, TURN, 0, 0, distance);
                holds(false, () -> second.isSound());
                OverlapMill stored = Loops.single(STORE);
                stored.store(0, distance, 1, 0);
                holds(false, () -> stored.isSound());
                OverlapMill itself = new OverlapMill();
                itself.store(0, distance, 1, 0);
                holds(false, () -> itself.isSound());
                OverlapMill later = new OverlapMill();
                later.reckon(ADD, 1, distance, TURN, 0);
                later.store(TURN, 0, 0, 0);
                holds(false, () -> later.isSound());
            }
        });
        terms("(the loop is SOUND, if that is so and all such OPS are there)", () -> {
            holds(true, () -> new OverlapMill().isSound());
            for (int op = 1; op < 8; op++) {
                OverlapMill x = new OverlapMill();
                x.reckon(ADD, op, 1, TURN, 0);
                OverlapMill y = new OverlapMill();
                y.store(op, 1, 0, 0);
                for (int size = 1; size <= op; size++) {
                    holds(false, () -> x.isSound());
                    holds(false, () -> y.isSound());
                    x.load(0, 0);
                    y.load(0, 0);
                }
                holds(true, () -> x.isSound());
                holds(true, () -> y.isSound());
                x.drop();
                holds(false, () -> x.isSound());
            }
            // The two parts of a LOAD and of a number are no SOURCES that are OPS.
            OverlapMill z = new OverlapMill();
            z.load(1, 7);
            z.reckon(ADD, NUMBER, 7, TURN, 7);
            z.store(NUMBER, 1, 1, 7);
            holds(true, () -> z.isSound());
        });
    }

    /** Three ADDS; OP 1 has two SOURCES with one DISTANCE. */
    static OverlapMill threeAdds(int a, int distance, int b) {
        OverlapMill x = Loops.adds(1);
        x.reckon(ADD, a, distance, b, distance);
        x.reckon(ADD, TURN, 0, TURN, 0);
        return x;
    }

    static void values() {
        terms("TURN by TURN (0 on), OP by OP", () -> {
            OverlapMill stored = new OverlapMill();
            stored.store(NUMBER, 55, 0, 0);
            stored.load(0, 0);
            stored.store(1, 0, 1, 0);
            due(55, () -> stored.plain(1, 0, 1));
            due(55, () -> stored.run(1, 0, 12, 1));
            OverlapMill loaded = new OverlapMill();
            loaded.load(0, 0);
            loaded.store(NUMBER, 55, 0, 0);
            loaded.store(0, 0, 1, 0);
            due(1, () -> loaded.plain(1, 0, 1));
            due(1, () -> loaded.run(1, 0, 12, 1));
            due(55, () -> loaded.plain(0, 0, 1));
            // Of two STORES in one TURN the later one stays; of two TURNS the later TURN.
            OverlapMill twice = new OverlapMill();
            twice.store(NUMBER, 5, 0, 3);
            twice.store(NUMBER, 6, 0, 3);
            twice.store(NUMBER, 7, 0, 4);
            due(6, () -> twice.plain(0, 3, 1));
            due(7, () -> twice.plain(0, 4, 1));
            due(6, () -> twice.plain(0, 4, 2));
            due(6, () -> twice.run(0, 3, 3, 1));
            due(7, () -> twice.run(0, 4, 3, 1));
            due(6, () -> twice.run(0, 4, 3, 2));
        });
        terms("what it comes to (32 bits, going round)", () -> {
            int[] kinds = {ADD, SUBTRACT, MULTIPLY};
            for (int kind : kinds) {
                OverlapMill x = new OverlapMill();
                x.reckon(MULTIPLY, 0, 1, NUMBER, 99);
                x.first(0, -9999);
                x.reckon(kind, 0, 0, 0, 1);
                int value = -9999;
                int before = value;
                for (int i = 0; i < 40; i++) {
                    before = value;
                    value *= 99;
                }
                int last = value;
                int want = kind == ADD ? value + before : kind == SUBTRACT ? value - before : value * before;
                due(last, () -> x.comes(0, 4, 40));
                due(want, () -> x.comes(1, 4, 40));
            }
            OverlapMill doubled = new OverlapMill();
            doubled.reckon(ADD, 0, 1, 0, 1);
            doubled.first(0, 1);
            due(1 << 30, () -> doubled.comes(0, 1, 30));
            due(LOWEST, () -> doubled.comes(0, 1, 31));
            due(0, () -> doubled.comes(0, 1, 32));
        });
        terms("of an OP with DISTANCE d what that came to d TURNS before; its FIRST value, -9999 to 9999,"
                + " 0 at first, if there was no such TURN", () -> {
            for (int distance = 0; distance <= 3; distance++) {
                OverlapMill x = Loops.behind(distance);
                int apart = distance;
                due(apart == 0 ? 10 : 0, () -> x.comes(1, 1, 1));
                x.first(0, 9999);
                x.first(1, -9999);
                for (int turn = 0; turn < 40; turn++) {
                    int n = turn + 1;
                    int want = turn < apart ? 9999 : turn - apart + 10;
                    due(want, () -> x.comes(1, 1, n));
                }
                fails(ARGUMENT, () -> x.first(0, 10000));
                fails(ARGUMENT, () -> x.first(0, -10000));
                due(apart == 0 ? 10 : 9999, () -> x.comes(1, 1, 1));
            }
        });
    }

    static void rows() {
        terms("LOAD: what is in its ROW at TURN and PLACE; STORE: puts its SOURCE there", () -> {
            OverlapMill x = new OverlapMill();
            x.load(0, 7);
            x.load(1, 7);
            x.load(0, 0);
            due(22, () -> x.comes(0, 3, 1));
            due(139, () -> x.comes(0, 3, 40));
            due(44, () -> x.comes(1, 3, 1));
            due(317, () -> x.comes(1, 3, 40));
            due(1, () -> x.comes(2, 3, 1));
            due(118, () -> x.comes(2, 3, 40));
            OverlapMill y = new OverlapMill();
            y.store(NUMBER, 55, 0, 7);
            y.store(TURN, 0, 1, 0);
            int[][] want = {{0, 6, 19}, {0, 7, 55}, {0, 46, 55}, {0, 47, 142}, {1, 0, 0}, {1, 39, 39},
                {1, 40, 275}};
            for (int[] one : want) {
                due(one[2], () -> y.plain(one[0], one[1], 40));
                due(one[2], () -> y.run(one[0], one[1], 2, 40));
            }
            due(25, () -> y.plain(0, 8, 1));
            due(2, () -> y.plain(1, 1, 1));
        });
        terms("ROWS have 64 places: at first 3 times k and 1, and 7 times k, less 5, at place k", () -> {
            OverlapMill x = new OverlapMill();
            for (int k = 0; k < 64; k++) {
                int place = k;
                due(3 * k + 1, () -> x.plain(0, place, 0));
                due(7 * k - 5, () -> x.plain(1, place, 40));
                due(3 * k + 1, () -> x.run(0, place, 1, 40));
                due(7 * k - 5, () -> x.run(1, place, 12, 0));
            }
            fails(ARGUMENT, () -> x.plain(0, 64, 0));
            fails(ARGUMENT, () -> x.plain(1, -1, 0));
            fails(ARGUMENT, () -> x.run(1, 64, 1, 0));
            fails(ARGUMENT, () -> x.run(0, -1, 1, 0));
        });
    }

    static void sourceNeeds() {
        terms("NEEDS: FROM one OP, TO another one (or the same), DISTANCE, DELAY", () -> {
            needs(Loops.circle(4, 3), new int[][] {{0, 0, 3, 4}});
            needs(new OverlapMill(), new int[][] {});
            needs(Loops.growth(), new int[][] {{0, 1, 0, 3}, {1, 0, 1, 1}});
        });
        terms("By each SOURCE that is an OP: DELAY LATENCY of that", () -> {
            OverlapMill x = Loops.scale();
            needs(x, new int[][] {{0, 1, 0, 2}, {1, 2, 0, 3}});
            x.kind(LOAD, 2, 6, 1);
            x.kind(MULTIPLY, 1, 1, 1);
            needs(x, new int[][] {{0, 1, 0, 6}, {1, 2, 0, 1}});
            OverlapMill both = new OverlapMill();
            both.reckon(ADD, TURN, 1, NUMBER, 1);
            both.reckon(MULTIPLY, 0, 3, 1, 2);
            needs(both, new int[][] {{0, 1, 3, 1}, {1, 1, 2, 3}});
        });
    }

    static void rowNeeds() {
        terms("if p is greater", () -> {
            needs(pair(true, 3, 2), new int[][] {{0, 1, 1, 4}});
            needs(pair(false, 3, 2), new int[][] {{1, 0, 1, 4}});
            needs(pair(true, 7, 0), new int[][] {{0, 1, 7, 4}});
            needs(pair(false, 7, 0), new int[][] {{1, 0, 7, 4}});
        });
        terms("or p is q and the STORE has the lesser number: FROM the STORE, DISTANCE p less q, DELAY its"
                + " LATENCY", () -> {
            needs(pair(true, 3, 3), new int[][] {{0, 1, 0, 4}});
            needs(pair(true, 0, 0), new int[][] {{0, 1, 0, 4}});
            needs(pair(true, 7, 7), new int[][] {{0, 1, 0, 4}});
        });
        terms("else FROM the LOAD, DISTANCE q less p, DELAY 1 less LATENCY of the STORE", () -> {
            needs(pair(false, 3, 3), new int[][] {{0, 1, 0, -3}});
            needs(pair(false, 2, 3), new int[][] {{0, 1, 1, -3}});
            needs(pair(true, 2, 3), new int[][] {{1, 0, 1, -3}});
            needs(pair(true, 0, 7), new int[][] {{1, 0, 7, -3}});
            OverlapMill x = pair(false, 0, 7);
            needs(x, new int[][] {{0, 1, 7, -3}});
            x.kind(STORE, 2, 1, 1);
            needs(x, new int[][] {{0, 1, 7, 0}});
            x.kind(STORE, 2, 6, 1);
            needs(x, new int[][] {{0, 1, 7, -5}});
            x.kind(LOAD, 2, 6, 1);
            needs(x, new int[][] {{0, 1, 7, -5}});
        });
        terms("For ROWS: of a STORE with PLACE p and a LOAD with PLACE q of one ROW", () -> {
            OverlapMill other = new OverlapMill();
            other.store(TURN, 0, 0, 3);
            other.load(1, 3);
            other.load(1, 3);
            other.store(TURN, 0, 1, 3);
            // OPS 1, 2 and 3 are of one ROW; two LOADS have no NEED, nor has OP 0 one.
            needs(other, new int[][] {{1, 3, 0, 0}, {2, 3, 0, 0}});
            OverlapMill row = new OverlapMill();
            row.store(TURN, 0, 1, 4);
            row.load(1, 3);
            needs(row, new int[][] {{0, 1, 1, 1}});
        });
        terms("Of two STORES of one ROW with PLACES p, q, p the greater one, or p is q and the first has the"
                + " lesser number: FROM the first, DISTANCE p less q, DELAY 1", () -> {
            int[][] want = {{0, 0, 0, 1, 0}, {7, 7, 0, 1, 0}, {7, 0, 0, 1, 7}, {0, 7, 1, 0, 7}, {4, 3, 0, 1, 1},
                {3, 4, 1, 0, 1}};
            for (int[] one : want) {
                OverlapMill x = new OverlapMill();
                x.kind(STORE, 2, 5, 1);
                x.store(TURN, 0, 1, one[0]);
                x.store(TURN, 0, 1, one[1]);
                needs(x, new int[][] {{one[2], one[3], one[4], 1}});
                OverlapMill apart = new OverlapMill();
                apart.store(TURN, 0, 1, one[0]);
                apart.store(TURN, 0, 0, one[1]);
                needs(apart, new int[][] {});
            }
        });
    }

    /** A STORE (LATENCY 4) at PLACE p of ROW 0 and a LOAD at PLACE q of it. */
    static OverlapMill pair(boolean storeAhead, int p, int q) {
        OverlapMill x = new OverlapMill();
        x.kind(STORE, 2, 4, 1);
        if (storeAhead) {
            x.store(TURN, 0, 0, p);
        }
        x.load(0, q);
        if (!storeAhead) {
            x.store(TURN, 0, 0, p);
        }
        return x;
    }

    static void orderOfNeeds() {
        terms("They are numbered by FROM, then by TO, then by DISTANCE, then by DELAY", () -> {
            OverlapMill x = new OverlapMill();
            x.reckon(ADD, 2, 1, 1, 1);
            x.reckon(ADD, 0, 3, 0, 0);
            x.reckon(ADD, 1, 0, 0, 2);
            needs(x, new int[][] {{0, 1, 0, 1}, {0, 1, 3, 1}, {0, 2, 2, 1}, {1, 0, 1, 1}, {1, 2, 0, 1},
                {2, 0, 1, 1}});
            // The STORE puts what the LOAD of its own place brings: one pair, one DISTANCE, two DELAYS.
            OverlapMill y = new OverlapMill();
            y.load(0, 2);
            y.store(0, 2, 0, 0);
            needs(y, new int[][] {{0, 1, 2, 0}, {0, 1, 2, 2}});
            y.kind(STORE, 2, 6, 1);
            needs(y, new int[][] {{0, 1, 2, -5}, {0, 1, 2, 2}});
        });
        terms("(alike ones are one)", () -> {
            OverlapMill x = new OverlapMill();
            x.load(0, 0);
            x.reckon(ADD, 0, 1, 0, 1);
            x.reckon(ADD, 2, 2, 2, 2);
            x.reckon(ADD, 0, 1, 0, 2);
            needs(x, new int[][] {{0, 1, 1, 2}, {0, 3, 1, 2}, {0, 3, 2, 2}, {2, 2, 2, 1}});
        });
    }

    static void newObject() {
        sentence(1, "No OPS.", () -> {
            OverlapMill x = new OverlapMill();
            due(0, () -> x.count(0));
            fails(INDEX, () -> x.op(0, 0));
            fails(INDEX, () -> x.first(0, 0));
            fails(INDEX, () -> x.time(0, 1));
            fails(INDEX, () -> x.need(0, 0));
            fails(STATE, () -> x.drop());
            holds(true, () -> x.isSound());
            OverlapMill other = Loops.adds(8);
            due(8, () -> other.count(0));
            due(0, () -> new OverlapMill().count(0));
        });
    }

    static void appending() {
        sentence(2, "An OP of KINDS 0 to 3: its number.", () -> {
            OverlapMill x = new OverlapMill();
            for (int i = 0; i < 8; i++) {
                int number = i;
                due(number, () -> x.reckon(number % 4, TURN, 0, TURN, 0));
                due(number % 4, () -> x.op(number, 0));
                due(number + 1, () -> x.count(0));
            }
        });
        sentence(2, "IllegalArgumentException: the KIND or a SOURCE is none", () -> {
            OverlapMill x = Loops.adds(7);
            for (int kind : new int[] {-1, 4, 5, 6, LOWEST, HIGHEST}) {
                fails(ARGUMENT, () -> x.reckon(kind, TURN, 0, TURN, 0));
            }
            fails(ARGUMENT, () -> x.reckon(ADD, 8, 0, TURN, 0));
            fails(ARGUMENT, () -> x.reckon(ADD, TURN, 0, 0, 4));
            fails(ARGUMENT, () -> x.reckon(ADD, -3, 0, TURN, 0));
            fails(ARGUMENT, () -> x.reckon(ADD, TURN, 0, NUMBER, 100));
            due(7, () -> x.count(0));
            // An OP that is not there yet, or never will be, is a SOURCE all the same.
            due(7, () -> x.reckon(ADD, 7, 0, 7, 3));
        });
        sentence(2, "IllegalStateException: there are 8.", () -> {
            OverlapMill x = Loops.adds(8);
            fails(STATE, () -> x.reckon(ADD, TURN, 0, TURN, 0));
            fails(ARGUMENT, () -> x.reckon(4, TURN, 0, TURN, 0));
            due(8, () -> x.count(0));
            x.drop();
            due(7, () -> x.reckon(LEAST, TURN, 0, TURN, 0));
            fails(STATE, () -> x.reckon(ADD, TURN, 0, TURN, 0));
        });
        sentence(3, "A LOAD: its number.", () -> {
            OverlapMill x = Loops.adds(6);
            due(6, () -> x.load(1, 7));
            due(7, () -> x.load(0, 0));
            due(LOAD, () -> x.op(6, 0));
        });
        sentence(3, "IllegalArgumentException: ROW or PLACE is none", () -> {
            OverlapMill x = new OverlapMill();
            fails(ARGUMENT, () -> x.load(2, 0));
            fails(ARGUMENT, () -> x.load(-1, 7));
            fails(ARGUMENT, () -> x.load(0, 8));
            fails(ARGUMENT, () -> x.load(1, -1));
            due(0, () -> x.count(0));
        });
        sentence(3, "IllegalStateException: there are 8 OPS.", () -> {
            OverlapMill x = Loops.adds(7);
            due(7, () -> x.load(0, 0));
            fails(STATE, () -> x.load(0, 0));
            fails(ARGUMENT, () -> x.load(0, 8));
            due(8, () -> x.count(0));
        });
        sentence(4, "A STORE: its number.", () -> {
            OverlapMill x = Loops.adds(6);
            due(6, () -> x.store(0, 3, 1, 7));
            due(7, () -> x.store(7, 0, 0, 0));
            due(STORE, () -> x.op(6, 0));
        });
        sentence(4, "IllegalArgumentException: the SOURCE, ROW or PLACE is none", () -> {
            OverlapMill x = new OverlapMill();
            fails(ARGUMENT, () -> x.store(8, 0, 0, 0));
            fails(ARGUMENT, () -> x.store(0, 4, 0, 0));
            fails(ARGUMENT, () -> x.store(NUMBER, -100, 0, 0));
            fails(ARGUMENT, () -> x.store(TURN, 0, 2, 0));
            fails(ARGUMENT, () -> x.store(TURN, 0, -1, 0));
            fails(ARGUMENT, () -> x.store(TURN, 0, 0, 8));
            fails(ARGUMENT, () -> x.store(TURN, 0, 0, -1));
            due(0, () -> x.count(0));
        });
        sentence(4, "IllegalStateException: there are 8 OPS.", () -> {
            OverlapMill x = Loops.adds(7);
            due(7, () -> x.store(TURN, 0, 0, 0));
            fails(STATE, () -> x.store(TURN, 0, 0, 0));
            fails(ARGUMENT, () -> x.store(TURN, 0, 0, 8));
            due(8, () -> x.count(0));
        });
    }

    static void dropping() {
        sentence(5, "The last OP is gone: how many are left.", () -> {
            OverlapMill x = Loops.scale();
            due(2, () -> x.drop());
            fails(INDEX, () -> x.op(2, 0));
            due(MULTIPLY, () -> x.op(1, 0));
            due(1, () -> x.count(1));
            due(1, () -> x.uses(2));
            due(5, () -> x.count(5));
            due(1, () -> x.drop());
            due(0, () -> x.drop());
            due(0, () -> x.count(1));
            due(0, () -> x.uses(2));
            OverlapMill full = Loops.adds(8);
            due(7, () -> full.drop());
            due(7, () -> full.load(0, 0));
            fails(STATE, () -> full.load(0, 0));
        });
        sentence(5, "The last OP is gone", () -> {
            // What comes in its place has a FIRST value of 0 again, KINDS and UNITS stay as told.
            OverlapMill x = Loops.circle(6, 1);
            x.unit(0, 3);
            x.first(0, 77);
            x.drop();
            x.reckon(ADD, 0, 1, NUMBER, 1);
            due(0, () -> x.op(0, 5));
            due(1, () -> x.comes(0, 6, 1));
            due(6, () -> x.count(5));
            due(3, () -> x.count(6));
        });
        sentence(5, "IllegalStateException: there is none.", () -> {
            OverlapMill x = new OverlapMill();
            fails(STATE, () -> x.drop());
            x.load(0, 0);
            due(0, () -> x.drop());
            fails(STATE, () -> x.drop());
            due(0, () -> x.load(0, 0));
        });
    }

    static void firstValues() {
        sentence(6, "The FIRST value of an OP is told: what it was.", () -> {
            OverlapMill x = Loops.adds(8);
            for (int op = 0; op < 8; op++) {
                int told = op;
                due(0, () -> x.first(told, 9999 - told));
                due(9999 - told, () -> x.first(told, told - 9999));
                due(told - 9999, () -> x.op(told, 5));
            }
            OverlapMill stored = Loops.single(STORE);
            due(0, () -> stored.first(0, 4));
            due(4, () -> stored.first(0, 5));
            OverlapMill lost = Loops.unsound();
            due(0, () -> lost.first(0, -9999));
            due(-9999, () -> lost.op(0, 5));
        });
        sentence(6, "IllegalArgumentException: it is none.", () -> {
            OverlapMill x = Loops.adds(1);
            x.first(0, 3);
            for (int value : new int[] {10000, -10000, LOWEST, HIGHEST}) {
                fails(ARGUMENT, () -> x.first(0, value));
            }
            due(3, () -> x.op(0, 5));
            due(3, () -> x.first(0, 9999));
            due(9999, () -> x.first(0, -9999));
        });
        sentence(6, "IndexOutOfBoundsException", () -> {
            OverlapMill x = Loops.adds(2);
            for (int op : new int[] {-1, 2, 7, 8, LOWEST, HIGHEST}) {
                fails(INDEX, () -> x.first(op, 0));
                fails(INDEX, () -> x.first(op, 10000));
            }
        });
    }

    static void tellingKinds() {
        sentence(7, "A KIND is told anew.", () -> {
            OverlapMill x = Loops.scale();
            takes(() -> x.kind(LOAD, 0, 6, 12));
            due(2, () -> x.uses(0));
            due(1, () -> x.uses(2));
            due(10, () -> x.count(5));
            due(6, () -> x.need(0, 3));
            takes(() -> x.kind(LOAD, 2, 2, 1));
            due(0, () -> x.uses(0));
            due(2, () -> x.need(0, 3));
            due(6, () -> x.count(5));
        });
        sentence(7, "IllegalArgumentException: its UNIT, LATENCY or BUSY is none.", () -> {
            OverlapMill x = Loops.adds(1);
            int[][] none = {{-1, 1, 1}, {3, 1, 1}, {0, 0, 1}, {0, 7, 1}, {0, 1, 0}, {0, 1, 16},
                {LOWEST, 1, 1}, {HIGHEST, 1, 1}, {0, LOWEST, 1}, {0, HIGHEST, 1}, {0, 1, LOWEST},
                {0, 1, HIGHEST}, {0, 1, -1}, {1, 6, 16}, {2, 7, 15}, {3, 6, 15}};
            for (int[] one : none) {
                refuses(ARGUMENT, () -> x.kind(ADD, one[0], one[1], one[2]));
            }
            due(1, () -> x.uses(0));
            due(1, () -> x.count(5));
            due(0, () -> x.uses(1));
        });
        sentence(7, "IndexOutOfBoundsException", () -> {
            OverlapMill x = Loops.adds(1);
            for (int kind : new int[] {-1, 6, 7, LOWEST, HIGHEST}) {
                refuses(INDEX, () -> x.kind(kind, 0, 1, 1));
                refuses(INDEX, () -> x.kind(kind, 3, 0, 16));
            }
            takes(() -> x.kind(STORE, 0, 1, 1));
        });
    }

    static void tellingUnits() {
        sentence(8, "COUNT of a UNIT is told: what it was.", () -> {
            OverlapMill x = new OverlapMill();
            due(1, () -> x.unit(0, 2));
            due(1, () -> x.unit(2, 3));
            due(2, () -> x.unit(0, 1));
            due(1, () -> x.unit(0, 3));
            due(3, () -> x.count(6));
            due(1, () -> x.count(7));
            due(3, () -> x.count(8));
        });
        sentence(8, "IllegalArgumentException: it is none.", () -> {
            OverlapMill x = new OverlapMill();
            for (int count : new int[] {0, 4, -1, LOWEST, HIGHEST}) {
                fails(ARGUMENT, () -> x.unit(1, count));
            }
            due(1, () -> x.count(7));
        });
        sentence(8, "IndexOutOfBoundsException", () -> {
            OverlapMill x = new OverlapMill();
            for (int unit : new int[] {-1, 3, LOWEST, HIGHEST}) {
                fails(INDEX, () -> x.unit(unit, 1));
                fails(INDEX, () -> x.unit(unit, 0));
            }
        });
    }

    static void askingOps() {
        sentence(9, "Of an OP what 0 KIND, 1, 2 its first SOURCE (of a LOAD: ROW, PLACE), 3, 4 its second one (of"
                + " a STORE: ROW, PLACE; of a LOAD 0), 5 its FIRST value.", () -> {
            OverlapMill x = new OverlapMill();
            x.reckon(SUBTRACT, 6, 2, NUMBER, -99);
            x.load(1, 7);
            x.store(5, 3, 1, 6);
            x.first(0, 11);
            x.first(1, 12);
            x.first(2, 13);
            int[][] want = {{SUBTRACT, 6, 2, NUMBER, -99, 11}, {LOAD, 1, 7, 0, 0, 12}, {STORE, 5, 3, 1, 6, 13}};
            for (int op = 0; op < 3; op++) {
                for (int what = 0; what < 6; what++) {
                    int asked = op;
                    int which = what;
                    due(want[op][what], () -> x.op(asked, which));
                }
            }
        });
        sentence(9, "NoSuchElementException: another what.", () -> {
            OverlapMill x = Loops.scale();
            for (int what : new int[] {-1, 6, LOWEST, HIGHEST}) {
                fails(ELEMENT, () -> x.op(0, what));
                fails(ELEMENT, () -> x.op(2, what));
            }
        });
        sentence(9, "IndexOutOfBoundsException", () -> {
            OverlapMill x = Loops.scale();
            for (int op : new int[] {-1, 3, 7, 8, LOWEST, HIGHEST}) {
                fails(INDEX, () -> x.op(op, 0));
                fails(INDEX, () -> x.op(op, 6));
            }
        });
    }

    static void askingSoundness() {
        sentence(10, "Whether the loop is SOUND.", () -> {
            OverlapMill x = new OverlapMill();
            holds(true, () -> x.isSound());
            x.reckon(ADD, 1, 0, TURN, 0);
            holds(false, () -> x.isSound());
            x.load(0, 0);
            holds(false, () -> x.isSound());
            x.drop();
            x.drop();
            holds(true, () -> x.isSound());
            x.reckon(ADD, 1, 1, TURN, 0);
            holds(false, () -> x.isSound());
            x.store(TURN, 0, 0, 0);
            holds(false, () -> x.isSound());
            x.drop();
            x.load(0, 0);
            holds(true, () -> x.isSound());
        });
    }

    static void askingNeeds() {
        sentence(11, "Of a NEED what 0 FROM, 1 TO, 2 DISTANCE, 3 DELAY.", () -> {
            needs(pair(false, 2, 3), new int[][] {{0, 1, 1, -3}});
        });
        sentence(11, "IllegalStateException: the loop is not SOUND", () -> {
            OverlapMill x = Loops.unsound();
            fails(STATE, () -> x.need(0, 0));
            fails(STATE, () -> x.need(-1, 0));
            fails(STATE, () -> x.need(0, 4));
            fails(STATE, () -> x.need(HIGHEST, LOWEST));
        });
        sentence(11, "NoSuchElementException: another what.", () -> {
            OverlapMill x = Loops.scale();
            for (int what : new int[] {-1, 4, LOWEST, HIGHEST}) {
                fails(ELEMENT, () -> x.need(0, what));
                fails(ELEMENT, () -> x.need(1, what));
            }
        });
        sentence(11, "IndexOutOfBoundsException", () -> {
            OverlapMill x = Loops.scale();
            for (int need : new int[] {-1, 2, 63, 64, LOWEST, HIGHEST}) {
                fails(INDEX, () -> x.need(need, 0));
                fails(INDEX, () -> x.need(need, 4));
            }
            fails(INDEX, () -> new OverlapMill().need(0, 0));
            fails(INDEX, () -> new OverlapMill().need(0, 9));
        });
    }
}
