/** Rings, folds, and what would be otherwise: promises 36 to 44 and 48 to 50 and their words in "Terms". */
final class BoundEdges extends Edge {
    private BoundEdges() {
    }

    static void go() {
        rate();
        critical();
        fold();
        bestFold();
        bare();
        who();
        faster();
        without();
        idle();
        more();
        squeeze();
        counts();
        asking();
    }

    static void isRate(int upper, int lower, OverlapMill x) {
        due(upper, () -> x.rate(false));
        due(lower, () -> x.rate(true));
    }

    static void rate() {
        terms("RATE: the greatest of DELAYS by DISTANCES, both together, of all rings of NEEDS that come to no OP"
                + " twice, as a fraction", () -> {
            int[][] want = {{1, 1, 1, 1}, {1, 3, 1, 3}, {4, 3, 4, 3}, {5, 2, 5, 2}, {6, 1, 6, 1}, {6, 3, 2, 1},
                {6, 2, 3, 1}, {4, 2, 2, 1}, {3, 3, 1, 1}, {2, 3, 2, 3}};
            for (int[] one : want) {
                isRate(one[2], one[3], Loops.circle(one[0], one[1]));
            }
            isRate(4, 1, Loops.growth());
            isRate(48, 1, PlanEdges.longRing(1));
            isRate(24, 1, PlanEdges.longRing(2));
            // 5 by 3 is more than 3 by 2, and 4 by 3 less, whichever comes first.
            isRate(5, 3, twoCircles(5, 3, 3, 2));
            isRate(5, 3, twoCircles(3, 2, 5, 3));
            isRate(3, 2, twoCircles(4, 3, 3, 2));
            isRate(3, 2, twoCircles(3, 2, 4, 3));
            // Of two NEEDS between the same OPS that of the ring that asks more.
            OverlapMill x = new OverlapMill();
            x.reckon(MULTIPLY, 1, 3, 1, 2);
            x.reckon(ADD, 0, 1, 0, 2);
            isRate(4, 3, x);
            // A ring through a ROW: DELAYS 2, 3 and 1, DISTANCE 1; that of the MULTIPLY alone asks less.
            OverlapMill three = Loops.single(LOAD);
            three.reckon(MULTIPLY, 0, 0, 1, 3);
            three.store(1, 0, 0, 1);
            isRate(6, 1, three);
        });
        terms("(0 by 1, if none is above 0, or without rings)", () -> {
            isRate(0, 1, new OverlapMill());
            isRate(0, 1, Loops.scale());
            isRate(0, 1, Loops.adds(8));
            OverlapMill x = Loops.circle(4, 3);
            isRate(4, 3, x);
            x.drop();
            isRate(0, 1, x);
        });
    }

    /** An ADD and a SUBTRACT with a ring each. */
    static OverlapMill twoCircles(int latency, int distance, int otherLatency, int otherDistance) {
        OverlapMill x = Loops.circle(latency, distance);
        x.kind(SUBTRACT, 0, otherLatency, 1);
        x.reckon(SUBTRACT, 1, otherDistance, NUMBER, 1);
        return x;
    }

    static void critical() {
        terms("CRITICAL: of these rings with RATE the OPS, as bits, of several the least", () -> {
            due(1, () -> Loops.circle(4, 3).critical());
            due(3, () -> Loops.growth().critical());
            due(255, () -> PlanEdges.longRing(1).critical());
            due(1, () -> twoCircles(5, 3, 3, 2).critical());
            due(2, () -> twoCircles(4, 3, 3, 2).critical());
            due(1, () -> twoCircles(4, 2, 2, 1).critical());
            due(1, () -> twoCircles(2, 1, 4, 2).critical());
            // The ring of OPS 0 and 3 (bits 9) is found first, that of OP 1 has the lesser bits.
            OverlapMill x = new OverlapMill();
            x.reckon(ADD, 3, 1, TURN, 0);
            x.reckon(ADD, 1, 1, TURN, 0);
            x.reckon(ADD, TURN, 0, TURN, 0);
            x.reckon(ADD, 0, 1, TURN, 0);
            due(2, () -> x.critical());
            // 2 by 1 of OPS 2 and 3 is more than 1 by 1 of OP 1.
            OverlapMill y = Loops.adds(1);
            y.reckon(ADD, 1, 1, TURN, 0);
            y.reckon(ADD, 3, 1, TURN, 0);
            y.reckon(ADD, 2, 0, TURN, 0);
            due(12, () -> y.critical());
            // OP 7 alone.
            OverlapMill last = Loops.adds(7);
            last.reckon(ADD, 7, 3, TURN, 0);
            due(128, () -> last.critical());
        });
        terms("(0 where RATE is 0)", () -> {
            due(0, () -> new OverlapMill().critical());
            due(0, () -> Loops.scale().critical());
            OverlapMill x = Loops.growth();
            due(3, () -> x.critical());
            x.drop();
            x.drop();
            due(0, () -> x.critical());
        });
    }

    static void folds(OverlapMill x, int... want) {
        for (int i = 0; i < 4; i++) {
            int k = i + 1;
            due(want[i], () -> x.fold(k));
        }
    }

    static void fold() {
        terms("FOLD k (1 to 4): k TURNS are taken as one: its BOUND is the greatest of: k times RATE, rounded up",
                () -> {
            folds(Loops.circle(4, 3), 2, 3, 4, 6);
            folds(Loops.circle(6, 1), 6, 12, 18, 24);
            folds(PlanEdges.longRing(1), 48, 96, 144, 192);
            fails(ARGUMENT, () -> Loops.circle(4, 3).fold(0));
            fails(ARGUMENT, () -> Loops.circle(4, 3).fold(5));
        });
        terms("for each UNIT k times its uses by its COUNT, rounded up", () -> {
            OverlapMill x = Loops.adds(4);
            x.unit(0, 3);
            folds(x, 2, 3, 4, 6);
            folds(Loops.adds(8), 8, 16, 24, 32);
            folds(Loops.scale(), 2, 4, 6, 8);
            // The greatest of three UNITS is that of the MULTIPLY or of the LOAD.
            OverlapMill y = Loops.scale();
            y.unit(1, 3);
            folds(y, 2, 4, 6, 8);
            y.unit(2, 3);
            folds(y, 1, 2, 2, 3);
        });
        terms("rounded up; 1.", () -> {
            folds(new OverlapMill(), 1, 1, 1, 1);
            OverlapMill x = Loops.circle(1, 3);
            x.unit(0, 3);
            folds(x, 1, 1, 1, 2);
        });
    }

    static void bestFold() {
        terms("BEST FOLD: the k with the least BOUND by k, of several the least", () -> {
            due(3, () -> Loops.circle(4, 3).bestFold());
            due(2, () -> Loops.circle(3, 2).bestFold());
            due(1, () -> Loops.circle(6, 1).bestFold());
            due(1, () -> Loops.adds(1).bestFold());
            due(4, () -> new OverlapMill().bestFold());
            OverlapMill x = Loops.circle(1, 3);
            x.unit(0, 3);
            due(3, () -> x.bestFold());
            OverlapMill y = Loops.adds(3);
            y.unit(0, 2);
            due(2, () -> y.bestFold());
            OverlapMill fours = Loops.adds(4);
            fours.unit(0, 3);
            due(3, () -> fours.bestFold());
        });
    }

    static void bare() {
        terms("SOONEST of an OP by d (ROUNDS at least): its least TIME, RING aside", () -> {
            OverlapMill x = Loops.adds(3);
            due(NONE, () -> x.moves(1));
            due(0, () -> x.bare(2, 1, false));
            due(0, () -> Loops.scale().bare(0, 1, false));
            due(2, () -> Loops.scale().bare(1, 1, false));
            due(5, () -> Loops.scale().bare(2, 12, false));
            due(0, () -> Loops.behind(3).bare(1, 1, false));
            due(3, () -> Loops.growth().bare(1, 4, false));
            due(0, () -> Loops.growth().bare(0, 4, false));
            fails(STATE, () -> Loops.growth().bare(0, 3, false));
            fails(STATE, () -> Loops.growth().bare(0, 3, true));
            fails(STATE, () -> PlanEdges.longRing(1).bare(0, 12, true));
            // An OP with a lesser number may be held by one with a greater one.
            OverlapMill back = new OverlapMill();
            back.reckon(ADD, 1, 1, TURN, 0);
            back.reckon(MULTIPLY, TURN, 0, TURN, 0);
            due(2, () -> back.bare(0, 1, false));
            due(1, () -> back.bare(0, 2, false));
            due(0, () -> back.bare(0, 3, false));
        });
        terms("LATEST: its greatest, RING aside, if no OP's TIME and LATENCY is above the greatest of SOONEST and"
                + " LATENCY of all", () -> {
            due(0, () -> Loops.scale().bare(0, 1, true));
            due(2, () -> Loops.scale().bare(1, 12, true));
            due(5, () -> Loops.scale().bare(2, 12, true));
            due(0, () -> Loops.adds(1).bare(0, 12, true));
            // The end is told by the first OP alone: LATENCY 6.
            OverlapMill first = Loops.single(LOAD);
            first.kind(LOAD, 2, 6, 1);
            first.reckon(ADD, TURN, 0, TURN, 0);
            due(0, () -> first.bare(0, 1, true));
            due(5, () -> first.bare(1, 1, true));
            // It is told by the last one: OP 0 must be ahead of OP 1 by its LATENCY, less d.
            OverlapMill last = Loops.adds(1);
            last.reckon(ADD, 0, 1, TURN, 0);
            last.kind(LOAD, 2, 6, 1);
            last.load(0, 0);
            due(5, () -> last.bare(0, 1, true));
            due(5, () -> last.bare(1, 1, true));
            OverlapMill near = Loops.behind(0);
            near.kind(LOAD, 2, 6, 1);
            near.load(0, 0);
            due(4, () -> near.bare(0, 1, true));
            due(5, () -> near.bare(1, 1, true));
            // The way back to OP 0 holds OP 1: 3 less d behind it.
            OverlapMill back = new OverlapMill();
            back.kind(ADD, 0, 4, 1);
            back.kind(LOAD, 2, 6, 1);
            back.reckon(ADD, 1, 1, TURN, 0);
            back.reckon(MULTIPLY, TURN, 0, TURN, 0);
            back.load(0, 0);
            due(2, () -> back.bare(0, 2, true));
            due(1, () -> back.bare(1, 2, true));
            due(2, () -> back.bare(0, 1, true));
            due(0, () -> back.bare(1, 1, true));
            // In a ring with a cycle to spare each one may be later, but not behind the end.
            due(0, () -> Loops.growth().bare(0, 12, true));
            due(3, () -> Loops.growth().bare(1, 12, true));
        });
    }

    static void who() {
        terms("WHO uses a UNIT in a SLOT of the RING of the FIRST PLAN: OPS, as bits", () -> {
            due(0, () -> Loops.scale().who(0, 0, 2));
            due(2, () -> Loops.scale().who(1, 0, 2));
            due(2, () -> Loops.scale().who(1, 1, 2));
            due(1, () -> Loops.scale().who(2, 0, 2));
            due(4, () -> Loops.scale().who(2, 1, 2));
            due(128, () -> Loops.adds(8).who(0, 7, 8));
            due(0, () -> Loops.adds(8).who(0, 11, 12));
            OverlapMill x = Loops.adds(3);
            x.unit(0, 3);
            due(7, () -> x.who(0, 0, 1));
            // The use one cycle behind TIME 3 is in SLOT 0 of 4; the fourth use of one OP in SLOT 3.
            OverlapMill wrapped = Loops.growth();
            wrapped.kind(ADD, 0, 1, 2);
            due(2, () -> wrapped.who(0, 0, 4));
            due(0, () -> wrapped.who(0, 3, 4));
            OverlapMill long4 = Loops.adds(1);
            long4.kind(ADD, 0, 1, 8);
            due(1, () -> long4.who(0, 3, 12));
            due(0, () -> long4.who(0, 4, 12));
        });
    }

    static void faster() {
        terms("FASTER of a KIND: BOUND, had it a LATENCY of 1 less", () -> {
            due(3, () -> Loops.growth().faster(MULTIPLY));
            due(4, () -> Loops.growth().faster(LOAD));
            fails(STATE, () -> Loops.growth().faster(ADD));
            due(5, () -> Loops.circle(6, 1).faster(ADD));
            due(1, () -> Loops.circle(2, 1).faster(ADD));
            fails(STATE, () -> Loops.circle(1, 1).faster(ADD));
            due(1, () -> Loops.circle(4, 3).faster(ADD));
            due(2, () -> Loops.circle(5, 3).faster(ADD));
            due(40, () -> PlanEdges.longRing(1).faster(ADD));
            // What UNITS ask stays.
            OverlapMill x = Loops.adds(8);
            x.kind(ADD, 0, 2, 1);
            due(8, () -> x.faster(ADD));
            due(1, () -> new OverlapMill().faster(MULTIPLY));
            // A STORE that is quicker: its DELAY to the LOAD is less.
            OverlapMill y = Loops.single(LOAD);
            y.kind(STORE, 2, 6, 1);
            y.store(0, 0, 0, 1);
            due(8, () -> y.count(2));
            due(7, () -> y.faster(STORE));
            due(7, () -> y.faster(LOAD));
            // Nothing is changed by asking.
            due(8, () -> y.count(2));
            due(6, () -> y.need(1, 3));
        });
    }

    static void without() {
        terms("WITHOUT a NEED: ROUNDS, were it not", () -> {
            due(0, () -> Loops.growth().without(0));
            due(0, () -> Loops.growth().without(1));
            due(0, () -> Loops.circle(6, 1).without(0));
            OverlapMill x = twoCircles(5, 3, 3, 2);
            due(2, () -> x.without(0));
            due(2, () -> x.without(1));
            OverlapMill y = twoCircles(6, 1, 3, 2);
            due(2, () -> y.without(0));
            due(6, () -> y.without(1));
            due(6, () -> y.count(2));
            due(2, () -> y.count(1));
            // Between the same OPS there is another NEED left.
            OverlapMill z = new OverlapMill();
            z.reckon(MULTIPLY, 0, 1, 0, 2);
            due(3, () -> z.count(2));
            due(2, () -> z.without(0));
            due(3, () -> z.without(1));
            due(0, () -> Loops.scale().without(1));
            due(0, () -> PlanEdges.longRing(1).without(7));
        });
    }

    static void idle() {
        terms("IDLE of a UNIT by d: uses that the RING has left (d times COUNT less uses)", () -> {
            due(0, () -> Loops.adds(8).idle(0, 8));
            due(4, () -> Loops.adds(8).idle(0, 12));
            due(0, () -> Loops.scale().idle(1, 2));
            due(2, () -> Loops.scale().idle(0, 2));
            due(10, () -> Loops.scale().idle(2, 12));
            OverlapMill x = new OverlapMill();
            x.unit(2, 3);
            due(36, () -> x.idle(2, 12));
            due(1, () -> x.idle(0, 1));
        });
    }

    static void more() {
        terms("MORE of a UNIT: BOUND, had it a COUNT of one more", () -> {
            due(4, () -> Loops.adds(8).more(0));
            due(8, () -> Loops.adds(8).more(1));
            OverlapMill x = Loops.adds(8);
            x.unit(0, 3);
            due(3, () -> x.count(4));
            due(2, () -> x.more(0));
            due(3, () -> x.more(2));
            due(3, () -> x.count(6));
            due(1, () -> new OverlapMill().more(0));
            due(4, () -> Loops.growth().more(1));
            OverlapMill y = Loops.adds(4);
            y.unit(0, 3);
            due(1, () -> y.more(0));
            // Another UNIT asks as much.
            due(2, () -> Loops.scale().more(1));
            due(2, () -> Loops.scale().more(2));
        });
    }

    /** NAMES 8, 5, 4, 4, 4, 3 for d 1 to 6: an ADD waits till the MULTIPLY has come, at 6. */
    static OverlapMill waiting() {
        OverlapMill x = Loops.adds(1);
        x.unit(0, 2);
        x.kind(MULTIPLY, 1, 6, 1);
        x.reckon(MULTIPLY, TURN, 0, TURN, 0);
        x.reckon(ADD, 0, 0, 1, 0);
        return x;
    }

    static void squeeze() {
        terms("SQUEEZE for r NAMES: the least d that FITS with NAMES r at most; none", () -> {
            int[][] want = {{99, 1}, {9, 1}, {8, 1}, {7, 2}, {5, 2}, {4, 3}, {3, 6}, {2, NONE}, {0, NONE}};
            for (int[] one : want) {
                due(one[1], () -> waiting().squeeze(one[0]));
            }
            due(1, () -> new OverlapMill().squeeze(0));
            due(1, () -> Loops.single(STORE).squeeze(0));
            OverlapMill late = Loops.growth();
            late.kind(ADD, 0, 6, 1);
            late.kind(MULTIPLY, 1, 6, 1);
            due(12, () -> late.squeeze(2));
            due(NONE, () -> late.squeeze(1));
            due(NONE, () -> PlanEdges.longRing(1).squeeze(99));
        });
    }

    static void counts() {
        sentence(50, "0 OPS, 1 NEEDS, 2 ROUNDS, 3 BY UNITS, 4 BOUND", () -> {
            int[] want = {2, 2, 4, 2, 4};
            for (int what = 0; what < 5; what++) {
                int which = what;
                due(want[what], () -> Loops.growth().count(which));
            }
            due(8, () -> Loops.adds(8).count(0));
            due(0, () -> new OverlapMill().count(1));
        });
        sentence(50, "(1 to 4: NONE, if the loop is not SOUND)", () -> {
            OverlapMill x = Loops.unsound();
            int[] want = {1, NONE, NONE, NONE, NONE, 1, 1, 1, 1, NONE};
            for (int what = 0; what < want.length; what++) {
                int which = what;
                due(want[what], () -> x.count(which));
            }
            x.reckon(ADD, TURN, 0, TURN, 0);
            due(2, () -> x.count(0));
            due(2, () -> x.count(5));
        });
        sentence(50, "5 LATENCIES of all OPS together, 6 to 8 COUNTS of UNITS", () -> {
            due(0, () -> new OverlapMill().count(5));
            due(6, () -> Loops.scale().count(5));
            due(48, () -> PlanEdges.longRing(1).count(5));
            OverlapMill x = new OverlapMill();
            x.unit(0, 2);
            x.unit(1, 3);
            due(2, () -> x.count(6));
            due(3, () -> x.count(7));
            due(1, () -> x.count(8));
        });
        sentence(50, "NONE for another what.", () -> {
            for (int what : new int[] {-1, 9, 10, LOWEST, HIGHEST}) {
                due(NONE, () -> Loops.scale().count(what));
                due(NONE, () -> Loops.unsound().count(what));
            }
        });
    }

    static void asking() {
        sentence(36, "RATE: the upper number, or the lower one.", () -> isRate(4, 3, Loops.circle(4, 3)));
        sentence(37, "CRITICAL.", () -> due(3, () -> Loops.growth().critical()));
        sentence(38, "BOUND of FOLD k.", () -> folds(Loops.circle(4, 3), 2, 3, 4, 6));
        sentence(39, "BEST FOLD.", () -> due(3, () -> Loops.circle(4, 3).bestFold()));
        sentence(40, "FASTER.", () -> due(3, () -> Loops.growth().faster(MULTIPLY)));
        sentence(41, "WITHOUT.", () -> due(0, () -> Loops.growth().without(0)));
        sentence(42, "IDLE.", () -> due(4, () -> Loops.adds(8).idle(0, 12)));
        sentence(43, "SOONEST (latest false) or LATEST of an OP by d.", () -> {
            OverlapMill x = Loops.single(LOAD);
            x.reckon(ADD, TURN, 0, TURN, 0);
            due(0, () -> x.bare(1, 1, false));
            due(1, () -> x.bare(1, 1, true));
        });
        sentence(44, "WHO.", () -> due(4, () -> Loops.scale().who(2, 1, 2)));
        sentence(48, "MORE of a UNIT.", () -> due(4, () -> Loops.adds(8).more(0)));
        sentence(49, "SQUEEZE; NONE.", () -> {
            due(6, () -> waiting().squeeze(3));
            due(NONE, () -> waiting().squeeze(2));
        });
    }
}
