/** PLANS, bounds, FAR and QUICK: promises 12 to 21 and part 2 of "Terms". */
final class PlanEdges extends Edge {
    private PlanEdges() {
    }

    static void go() {
        plans();
        ringOfUnits();
        rounds();
        bounds();
        leastStep();
        firstPlan();
        farAndHeight();
        quickOrder();
        quickEarly();
        quickThrowing();
        quickEnd();
        asking();
    }

    static void plans() {
        terms("A PLAN for a STEP d (1 to 12)", () -> {
            OverlapMill x = Loops.adds(1);
            for (int d = 1; d <= 12; d++) {
                int step = d;
                holds(true, () -> x.fits(step));
                due(0, () -> x.time(0, step));
            }
            fails(ARGUMENT, () -> x.time(0, 0));
            fails(ARGUMENT, () -> x.time(0, 13));
        });
        terms("TIMES of OPS (0 or more)", () -> {
            // The STORE may begin 7 times d ahead of the LOAD, and more; it begins at 0.
            OverlapMill x = new OverlapMill();
            x.unit(2, 2);
            x.kind(STORE, 2, 6, 1);
            x.load(0, 7);
            x.store(TURN, 0, 0, 0);
            times(x, 1, 0, 0);
            times(x, 12, 0, 0);
            due(0, () -> x.bare(1, 12, false));
            OverlapMill y = Loops.behind(3);
            times(y, 1, 0, 0);
            times(y, 12, 0, 0);
        });
        terms("so that for each NEED TIME of TO is TIME of FROM and DELAY, less d times DISTANCE, at least", () -> {
            times(Loops.growth(), 4, 0, 3);
            holds(false, () -> Loops.growth().fits(3));
            holds(true, () -> Loops.circle(6, 3).fits(2));
            holds(false, () -> Loops.circle(6, 3).fits(1));
            times(Loops.behind(0), 1, 0, 1);
            times(Loops.behind(1), 1, 0, 0);
        });
    }

    static void ringOfUnits() {
        terms("and RING: for each UNIT and each SLOT (0 to d less 1) at most COUNT uses", () -> {
            int[] least = {8, 4, 3};
            for (int count = 1; count <= 3; count++) {
                OverlapMill x = Loops.adds(8);
                x.unit(0, count);
                int step = least[count - 1];
                holds(false, () -> x.fits(step - 1));
                holds(true, () -> x.fits(step));
                due(step, () -> x.least());
                fails(ARGUMENT, () -> x.ring(0, step, step));
                fails(ARGUMENT, () -> x.ring(0, -1, step));
            }
            OverlapMill x = Loops.adds(8);
            for (int slot = 0; slot < 8; slot++) {
                int asked = slot;
                due(1, () -> x.ring(0, asked, 8));
                due(0, () -> x.ring(1, asked, 8));
            }
            // Each UNIT has its own RING: one OP of each fits in one SLOT.
            OverlapMill each = Loops.adds(1);
            each.kind(MULTIPLY, 1, 3, 1);
            each.reckon(MULTIPLY, TURN, 0, TURN, 0);
            each.load(0, 0);
            holds(true, () -> each.fits(1));
            due(3, () -> each.ring(0, 0, 1) + each.ring(1, 0, 1) + each.ring(2, 0, 1));
        });
        terms("each OP using its UNIT at TIME and each of BUSY, modulo d", () -> {
            OverlapMill x = Loops.adds(1);
            x.kind(ADD, 0, 1, 15);
            x.unit(0, 2);
            rings(x, 0, 4, 1, 1, 1, 1);
            rings(x, 0, 3, 2, 1, 1);
            rings(x, 0, 2, 2, 2);
            rings(x, 0, 5, 1, 1, 1, 1, 0);
            OverlapMill late = Loops.adds(1);
            late.kind(ADD, 0, 1, 8);
            rings(late, 0, 1, 1);
            rings(late, 0, 2, 0, 1);
            rings(late, 0, 3, 1, 0, 0);
            rings(late, 0, 4, 0, 0, 0, 1);
            rings(late, 0, 5, 0, 0, 0, 1, 0);
            // The ADD begins at 3; its use one cycle behind that is in SLOT 0 of 4.
            OverlapMill wrapped = Loops.growth();
            wrapped.kind(ADD, 0, 1, 2);
            rings(wrapped, 0, 4, 1, 0, 0, 0);
        });
        terms("(an OP more than once in a SLOT, if that comes so)", () -> {
            OverlapMill x = Loops.adds(1);
            x.kind(ADD, 0, 1, 9);
            holds(false, () -> x.fits(1));
            holds(true, () -> x.fits(2));
            holds(false, () -> x.fits(3));
            holds(true, () -> x.fits(4));
            x.unit(0, 2);
            holds(true, () -> x.fits(1));
            rings(x, 0, 3, 2, 0, 0);
            due(1, () -> x.who(0, 0, 3));
            x.kind(ADD, 0, 1, 7);
            holds(false, () -> x.fits(1));
            x.unit(0, 3);
            rings(x, 0, 1, 3);
            x.kind(ADD, 0, 1, 15);
            holds(false, () -> x.fits(1));
            holds(true, () -> x.fits(2));
        });
    }

    static void rings(OverlapMill x, int unit, int d, int... want) {
        for (int i = 0; i < want.length; i++) {
            int slot = i;
            due(want[i], () -> x.ring(unit, slot, d));
        }
    }

    static void rounds() {
        terms("ROUNDS: the least d such that no ring of NEEDS has DELAYS together above d times its DISTANCES"
                + " together", () -> {
            int[][] want = {{1, 1, 1}, {6, 1, 6}, {6, 3, 2}, {6, 2, 3}, {4, 3, 2}, {5, 2, 3}, {1, 3, 1}, {3, 3, 1},
                {4, 2, 2}};
            for (int[] one : want) {
                due(one[2], () -> Loops.circle(one[0], one[1]).count(2));
                holds(true, () -> Loops.circle(one[0], one[1]).fits(one[2]));
                due(0, () -> Loops.circle(one[0], one[1]).moves(one[2]) - 1);
                if (one[2] > 1) {
                    holds(false, () -> Loops.circle(one[0], one[1]).fits(one[2] - 1));
                    fails(STATE, () -> Loops.circle(one[0], one[1]).moves(one[2] - 1));
                }
            }
            due(4, () -> Loops.growth().count(2));
            // Of two rings the one that asks more, wherever it stands.
            OverlapMill two = new OverlapMill();
            two.reckon(ADD, 0, 1, TURN, 0);
            two.reckon(MULTIPLY, 1, 1, 1, 3);
            due(3, () -> two.count(2));
            due(48, () -> longRing(1).count(2));
            due(24, () -> longRing(2).count(2));
            due(16, () -> longRing(3).count(2));
        });
        terms("(0 as the least)", () -> {
            due(0, () -> new OverlapMill().count(2));
            due(0, () -> Loops.adds(8).count(2));
            due(0, () -> Loops.scale().count(2));
            OverlapMill x = new OverlapMill();
            x.load(0, 7);
            x.store(TURN, 0, 0, 0);
            due(0, () -> x.count(2));
        });
    }

    /** Eight ADDS of LATENCY 6 in one ring. */
    static OverlapMill longRing(int distance) {
        OverlapMill x = new OverlapMill();
        x.kind(ADD, 0, 6, 1);
        x.unit(0, 3);
        x.reckon(ADD, 7, distance, TURN, 0);
        for (int op = 1; op < 8; op++) {
            x.reckon(ADD, op - 1, 0, TURN, 0);
        }
        return x;
    }

    static void bounds() {
        terms("BY UNITS: the greatest of: uses of a UNIT by all OPS, by its COUNT, rounded up", () -> {
            int[][] want = {{1, 1, 1}, {1, 3, 1}, {3, 3, 1}, {4, 3, 2}, {6, 3, 2}, {7, 3, 3}, {8, 2, 4}, {7, 2, 4}};
            for (int[] one : want) {
                OverlapMill x = Loops.adds(one[0]);
                x.unit(0, one[1]);
                due(one[2], () -> x.count(3));
            }
            due(0, () -> new OverlapMill().count(3));
            OverlapMill x = Loops.adds(3);
            x.reckon(MULTIPLY, TURN, 0, TURN, 0);
            x.reckon(MULTIPLY, TURN, 0, TURN, 0);
            due(4, () -> x.count(3));
            x.unit(1, 2);
            due(3, () -> x.count(3));
            OverlapMill most = Loops.adds(8);
            most.kind(ADD, 2, 1, 15);
            due(32, () -> most.count(3));
        });
        terms("BOUND: the greater of both, 1 at least", () -> {
            due(1, () -> new OverlapMill().count(4));
            due(4, () -> Loops.growth().count(4));
            due(2, () -> Loops.growth().count(3));
            due(8, () -> Loops.adds(8).count(4));
            due(2, () -> Loops.circle(4, 3).count(4));
            OverlapMill rest = Loops.adds(3);
            rest.unit(0, 3);
            due(1, () -> rest.count(4));
            due(48, () -> longRing(1).count(4));
        });
        terms("FITS d: there is a PLAN", () -> {
            // BOUND is 2, but the two uses meet in one SLOT of 2.
            OverlapMill x = Loops.adds(1);
            x.kind(ADD, 0, 1, 5);
            due(2, () -> x.count(4));
            holds(false, () -> x.fits(2));
            holds(true, () -> x.fits(3));
            // The ring leaves the ADD TIME 3 alone of 4, which the MULTIPLY uses.
            OverlapMill y = Loops.growth();
            y.kind(MULTIPLY, 0, 3, 9);
            due(4, () -> y.count(4));
            holds(false, () -> y.fits(4));
            times(y, 5, 0, 4);
            holds(true, () -> new OverlapMill().fits(1));
            holds(true, () -> new OverlapMill().fits(12));
        });
    }

    static void leastStep() {
        terms("LEAST: the least d that FITS", () -> {
            OverlapMill x = Loops.adds(1);
            x.kind(ADD, 0, 1, 9);
            due(2, () -> x.least());
            x.kind(ADD, 0, 1, 5);
            due(3, () -> x.least());
            due(1, () -> new OverlapMill().least());
            due(4, () -> Loops.growth().least());
        });
        terms("none, if none of 1 to 12 does", () -> {
            OverlapMill ring = Loops.growth();
            ring.kind(ADD, 0, 6, 1);
            ring.kind(MULTIPLY, 1, 6, 1);
            due(12, () -> ring.least());
            holds(true, () -> ring.fits(12));
            holds(false, () -> ring.fits(11));
            OverlapMill longer = new OverlapMill();
            longer.kind(ADD, 0, 6, 1);
            longer.reckon(ADD, 2, 1, TURN, 0);
            longer.reckon(ADD, 0, 0, TURN, 0);
            longer.reckon(SUBTRACT, 1, 0, TURN, 0);
            due(13, () -> longer.count(2));
            due(NONE, () -> longer.least());
            holds(false, () -> longer.fits(12));
            OverlapMill uses = Loops.adds(3);
            uses.kind(ADD, 0, 1, 15);
            due(12, () -> uses.least());
            times(uses, 12, 0, 4, 8);
            uses.reckon(SUBTRACT, TURN, 0, TURN, 0);
            due(13, () -> uses.count(4));
            due(NONE, () -> uses.least());
            due(NONE, () -> longRing(1).least());
        });
    }

    static void firstPlan() {
        terms("FIRST PLAN of a d that FITS: SLOTS (TIME modulo d), OP by OP the least for which there is a PLAN"
                + " with these SLOTS (of OPS ahead as they are)", () -> {
            // With OP 1 in SLOT 1 the uses of OP 2, two cycles apart, would find no room round 4.
            times(apart(), 4, 0, 2, 1);
            // TIMES of the ADD are 3 to 2 times d less 1: SLOT 0 is the least, though not the first TIME.
            OverlapMill far = new OverlapMill();
            far.reckon(MULTIPLY, 1, 2, NUMBER, 2);
            far.reckon(ADD, 0, 0, NUMBER, 5);
            times(far, 4, 0, 4);
            times(far, 3, 0, 3);
            times(far, 2, 0, 3);
            times(far, 12, 0, 12);
            times(Loops.growth(), 5, 0, 3);
            times(Loops.growth(), 12, 0, 3);
            times(Loops.adds(8), 8, 0, 1, 2, 3, 4, 5, 6, 7);
            times(Loops.adds(8), 12, 0, 1, 2, 3, 4, 5, 6, 7);
        });
        terms("then TIMES the least with all SLOTS so", () -> {
            times(Loops.scale(), 2, 0, 2, 5);
            times(Loops.scale(), 3, 0, 3, 7);
            times(Loops.scale(), 12, 0, 12, 25);
            OverlapMill x = Loops.adds(2);
            x.kind(ADD, 0, 6, 1);
            x.unit(0, 3);
            x.reckon(ADD, 0, 0, 1, 0);
            times(x, 1, 0, 0, 6);
            times(x, 4, 0, 0, 8);
            times(x, 6, 0, 0, 6);
            times(x, 12, 0, 0, 12);
            // NEEDS that lead from greater numbers to lesser ones hold as well: 6 less d from each to the next.
            OverlapMill back = new OverlapMill();
            back.kind(ADD, 0, 6, 1);
            back.unit(0, 3);
            for (int op = 0; op < 7; op++) {
                back.reckon(ADD, op + 1, 1, TURN, 0);
            }
            back.reckon(ADD, TURN, 0, TURN, 0);
            times(back, 3, 27, 24, 21, 16, 13, 10, 5, 2);
            times(back, 6, 12, 12, 12, 7, 7, 7, 2, 2);
        });
        terms("SLOTS (TIME modulo d)", () -> {
            due(1, () -> Loops.scale().life(2, 2, 1));
            due(1, () -> Loops.scale().life(2, 12, 1));
            due(0, () -> Loops.scale().life(1, 12, 1));
            due(3, () -> Loops.growth().life(1, 4, 1));
        });
    }

    /** Two OPS with one use and one with uses two cycles apart, all of UNIT 0. */
    static OverlapMill apart() {
        OverlapMill x = Loops.adds(2);
        x.kind(SUBTRACT, 0, 1, 5);
        x.reckon(SUBTRACT, TURN, 0, TURN, 0);
        return x;
    }

    static void farAndHeight() {
        terms("FAR of two OPS by d: the greatest of DELAYS less d times DISTANCES, together, along NEEDS from the"
                + " one to the other one (one NEED at least)", () -> {
            OverlapMill x = Loops.growth();
            due(3, () -> x.far(0, 1, 4));
            due(-3, () -> x.far(1, 0, 4));
            due(0, () -> x.far(0, 0, 4));
            due(0, () -> x.far(1, 1, 4));
            due(-1, () -> x.far(0, 0, 5));
            due(-8, () -> x.far(1, 1, 12));
            // Straight from OP 0 to OP 2 it is 1 less d, over OP 1 it is 2.
            OverlapMill y = Loops.adds(1);
            y.reckon(ADD, 0, 0, TURN, 0);
            y.reckon(ADD, 1, 0, 0, 1);
            due(2, () -> y.far(0, 2, 1));
            due(2, () -> y.far(0, 2, 12));
            OverlapMill z = Loops.adds(1);
            z.reckon(ADD, 0, 3, TURN, 0);
            z.reckon(ADD, 1, 0, 0, 1);
            due(0, () -> z.far(0, 2, 1));
            due(-11, () -> z.far(0, 2, 12));
            OverlapMill low = new OverlapMill();
            low.kind(STORE, 2, 6, 1);
            low.load(0, 7);
            low.store(TURN, 0, 0, 0);
            due(-89, () -> low.far(0, 1, 12));
        });
        terms("none without such", () -> {
            due(-1000, () -> Loops.adds(1).far(0, 0, 1));
            due(-1000, () -> Loops.scale().far(2, 0, 12));
            due(-1000, () -> Loops.scale().far(1, 1, 1));
            due(-1000, () -> Loops.behind(3).far(1, 0, 1));
            due(-2, () -> Loops.behind(3).far(0, 1, 1));
        });
        terms("HEIGHT of an OP by d: the greatest FAR to any OP, 0 at least", () -> {
            due(5, () -> Loops.scale().height(0, 1));
            due(3, () -> Loops.scale().height(1, 1));
            due(0, () -> Loops.scale().height(2, 1));
            due(0, () -> Loops.behind(3).height(0, 1));
            due(0, () -> Loops.behind(1).height(0, 1));
            due(1, () -> Loops.behind(0).height(0, 12));
            // The way may lead to an OP with a lesser number, OP 0 too.
            OverlapMill back = new OverlapMill();
            back.reckon(ADD, 1, 1, TURN, 0);
            back.reckon(MULTIPLY, TURN, 0, TURN, 0);
            due(2, () -> back.height(1, 1));
            due(1, () -> back.height(1, 2));
            due(0, () -> back.height(1, 3));
            due(0, () -> back.height(0, 1));
        });
        terms("(d at least ROUNDS)", () -> {
            fails(STATE, () -> Loops.growth().height(0, 3));
            due(3, () -> Loops.growth().height(0, 4));
            fails(STATE, () -> longRing(1).height(0, 12));
            fails(STATE, () -> longRing(1).far(0, 0, 12));
            fails(STATE, () -> Loops.circle(6, 3).far(0, 0, 1));
            due(0, () -> Loops.circle(6, 3).far(0, 0, 2));
        });
    }

    static void quickOrder() {
        terms("of OPS without a TIME that with the greatest HEIGHT", () -> {
            // OP 1 is higher by its NEED to OP 2 and comes first; then OP 0, then OP 2.
            OverlapMill x = Loops.adds(2);
            x.reckon(ADD, 1, 0, TURN, 0);
            quickly(x, 3, 3, 1, 0, 2);
            // By numbers it would never come to an end; OP 1 is the highest one.
            OverlapMill y = new OverlapMill();
            y.unit(0, 2);
            y.kind(ADD, 0, 3, 9);
            y.kind(SUBTRACT, 0, 2, 1);
            y.reckon(ADD, TURN, 0, TURN, 0);
            y.reckon(SUBTRACT, 2, 2, TURN, 0);
            y.reckon(ADD, 1, 0, TURN, 0);
            due(3, () -> y.quickest());
            quickly(y, 3, 3, 1, 0, 2);
        });
        terms("of several the least number", () -> {
            quickly(Loops.adds(3), 3, 3, 0, 1, 2);
            quickly(Loops.adds(8), 8, 8, 0, 1, 2, 3, 4, 5, 6, 7);
            quickly(Loops.adds(8), 12, 8, 0, 1, 2, 3, 4, 5, 6, 7);
        });
    }

    static void quickEarly() {
        terms("EARLY: the greatest of TIME and DELAY less d times DISTANCE of all NEEDS from OPS with a TIME"
                + " (others than itself) to it, 0 at least", () -> {
            OverlapMill x = new OverlapMill();
            x.load(0, 0);
            x.reckon(MULTIPLY, TURN, 0, TURN, 0);
            x.reckon(ADD, 0, 0, 1, 0);
            quickly(x, 2, 3, 0, 0, 3);
            OverlapMill y = new OverlapMill();
            y.load(0, 0);
            y.reckon(MULTIPLY, TURN, 0, TURN, 0);
            y.reckon(ADD, 0, 0, 1, 1);
            quickly(y, 2, 3, 0, 0, 2);
            quickly(Loops.behind(3), 1, 2, 0, 0);
            quickly(Loops.behind(1), 1, 2, 0, 0);
            quickly(Loops.behind(0), 1, 2, 0, 1);
            // The ADD has no TIME when the MULTIPLY comes, and an OP is not held by itself.
            quickly(Loops.growth(), 4, 2, 0, 3);
            quickly(Loops.circle(6, 3), 2, 1, 0);
        });
        terms("It comes to the first of EARLY to EARLY and d less 1 at which RING has room for it", () -> {
            quickly(Loops.adds(3), 3, 3, 0, 1, 2);
            quickly(Loops.adds(3), 4, 3, 0, 1, 2);
            // EARLY 5 is SLOT 0 of 5, which the LOAD has of UNIT 2.
            quickly(Loops.scale(), 5, 3, 0, 2, 6);
            quickly(Loops.scale(), 2, 3, 0, 2, 5);
            // Both uses must have room: SLOTS 0 and 2 are taken by OP 0, so 1 and 3 are first.
            OverlapMill twice = Loops.adds(2);
            twice.kind(ADD, 0, 1, 5);
            quickly(twice, 4, 2, 0, 1);
            // What was tried at 0 and found no room leaves nothing behind: SLOTS 1 and 2 are free.
            OverlapMill near = Loops.adds(1);
            near.kind(SUBTRACT, 0, 1, 3);
            near.reckon(SUBTRACT, TURN, 0, TURN, 0);
            quickly(near, 3, 2, 0, 1);
            OverlapMill once = Loops.adds(1);
            once.unit(0, 2);
            once.kind(ADD, 0, 1, 9);
            quickly(once, 3, 1, 0);
        });
    }

    static void quickThrowing() {
        terms("if there is none: to EARLY", () -> {
            // OP 2 has no room beside SLOTS 0 and 1, comes to 0 and 2, OP 0 goes and comes to 3.
            quickly(apart(), 4, 4, 3, 1, 0);
        });
        terms("or to 1 more than it had last, if that is greater", () -> {
            // OPS 0, 1 come to 0, 1 (and 3); OP 2 to 0 and 1, both go; OP 0 to 2; OP 1, which had 1, to 2
            // and 4, OP 0 goes again, and comes to 3.
            OverlapMill x = Loops.adds(1);
            x.kind(SUBTRACT, 0, 3, 5);
            x.kind(LEAST, 0, 1, 3);
            x.reckon(SUBTRACT, TURN, 0, TURN, 0);
            x.reckon(LEAST, TURN, 0, TURN, 0);
            quickly(x, 5, 6, 3, 2, 0);
        });
        terms("and, OP by OP, all others with a TIME go that use its UNIT in a SLOT in which it does, if that is"
                + " asked too much", () -> {
            // OP 1 shares no SLOT with OP 2, the MULTIPLY is of another UNIT: both stay where they are.
            OverlapMill x = apart();
            x.reckon(MULTIPLY, TURN, 0, TURN, 0);
            quickly(x, 4, 5, 3, 1, 0, 0);
        });
        terms("(looked at anew behind each)", () -> {
            // Two have SLOT 0 of a UNIT of two; OP 2 asks for both SLOTS: OP 0 goes, then OP 1 may stay.
            OverlapMill x = Loops.adds(2);
            x.unit(0, 2);
            x.kind(SUBTRACT, 0, 1, 6);
            x.reckon(SUBTRACT, TURN, 0, TURN, 0);
            quickly(x, 2, 4, 1, 0, 0);
        });
        terms("Then OPS go to or from which a NEED is not so any more", () -> {
            // OP 0 comes to 0, OP 1 to 1, so that OP 0 may be at 1 at least: it goes, and comes to 2.
            OverlapMill x = new OverlapMill();
            x.kind(ADD, 0, 2, 1);
            x.reckon(ADD, 1, 1, TURN, 0);
            x.reckon(ADD, TURN, 0, TURN, 0);
            quickly(x, 2, 3, 2, 1);
            // The NEED just holds for d 3: 1 and 2 less 3 is 0.
            quickly(x, 3, 2, 0, 1);
        });
        terms("(An OP the NEEDS of which to itself are not so, or that alone asks too much of its UNIT, for d: no"
                + " QUICK.)", () -> {
            due(NONE, () -> Loops.scale().moves(1));
            due(NONE, () -> Loops.scale().quick(0, 1));
            due(NONE, () -> Loops.scale().quick(2, 1));
            OverlapMill x = Loops.adds(1);
            x.kind(ADD, 0, 1, 9);
            due(NONE, () -> x.moves(3));
            due(1, () -> x.moves(2));
            x.unit(0, 2);
            due(1, () -> x.moves(3));
            due(1, () -> x.moves(1));
            x.kind(ADD, 0, 1, 15);
            due(NONE, () -> x.moves(1));
            due(1, () -> x.moves(2));
            due(6, () -> Loops.circle(6, 1).quickest());
            due(2, () -> Loops.circle(6, 3).quickest());
        });
    }

    static void quickEnd() {
        terms("QUICK by d: at most 6 times as many moves as there are OPS", () -> {
            OverlapMill enough = new OverlapMill();
            enough.unit(1, 3);
            enough.kind(ADD, 1, 1, 13);
            enough.kind(SUBTRACT, 1, 1, 9);
            enough.kind(MULTIPLY, 1, 1, 15);
            enough.kind(LEAST, 1, 1, 5);
            for (int kind : new int[] {SUBTRACT, ADD, MULTIPLY, MULTIPLY, LEAST}) {
                enough.reckon(kind, TURN, 0, TURN, 0);
            }
            quickly(enough, 5, 30, 1, 1, 7, 0, 0);
        });
        terms("Done, if all have TIMES", () -> {
            due(0, () -> new OverlapMill().moves(1));
            due(0, () -> new OverlapMill().moves(12));
            due(1, () -> Loops.adds(1).moves(1));
            due(8, () -> Loops.adds(8).moves(8));
        });
        terms("none, if moves are used up", () -> {
            // It would be done with the 19th move of three OPS.
            OverlapMill few = Loops.single(LEAST);
            few.kind(LEAST, 0, 1, 8);
            few.kind(SUBTRACT, 0, 1, 5);
            few.kind(LOAD, 0, 1, 15);
            few.reckon(SUBTRACT, TURN, 0, TURN, 0);
            few.load(1, 7);
            holds(true, () -> few.fits(7));
            quickly(few, 7, NONE, NONE, NONE, NONE);
            quickly(Loops.adds(3), 2, NONE, NONE, NONE, NONE);
            due(8, () -> few.quickest());
        });
    }

    static void asking() {
        sentence(12, "FAR by d; -1000 without.", () -> {
            due(5, () -> Loops.scale().far(0, 2, 12));
            due(-1000, () -> Loops.scale().far(2, 1, 12));
            due(-35, () -> Loops.behind(3).far(0, 1, 12));
        });
        sentence(13, "HEIGHT by d.", () -> {
            due(5, () -> Loops.scale().height(0, 12));
            due(0, () -> Loops.behind(3).height(0, 12));
        });
        sentence(14, "Uses of a UNIT by all OPS.", () -> {
            due(0, () -> new OverlapMill().uses(0));
            due(8, () -> Loops.adds(8).uses(0));
            due(0, () -> Loops.adds(8).uses(2));
            due(2, () -> Loops.scale().uses(1));
            due(2, () -> Loops.scale().uses(2));
            due(1, () -> Loops.unsound().uses(0));
            OverlapMill x = Loops.adds(8);
            x.kind(ADD, 2, 1, 15);
            due(32, () -> x.uses(2));
        });
        sentence(15, "Whether d FITS.", () -> {
            holds(false, () -> Loops.scale().fits(1));
            holds(true, () -> Loops.scale().fits(2));
            holds(true, () -> Loops.scale().fits(12));
        });
        sentence(16, "LEAST; NONE.", () -> {
            due(2, () -> Loops.scale().least());
            due(NONE, () -> longRing(3).least());
        });
        sentence(16, "IllegalStateException: the loop is not SOUND.", () -> {
            fails(STATE, () -> Loops.unsound().least());
        });
        sentence(17, "TIME of an OP in the FIRST PLAN.", () -> times(apart(), 4, 0, 2, 1));
        sentence(18, "Uses of a UNIT in a SLOT of its RING.", () -> {
            rings(apart(), 0, 4, 1, 1, 1, 1);
            rings(Loops.scale(), 2, 2, 1, 1);
            rings(Loops.scale(), 0, 2, 0, 0);
            rings(new OverlapMill(), 2, 1, 0);
        });
        sentence(19, "QUICK: TIME of an OP; NONE: there is no QUICK.", () -> {
            due(3, () -> apart().quick(0, 4));
            due(NONE, () -> Loops.adds(3).quick(0, 2));
            due(NONE, () -> Loops.scale().quick(1, 1));
        });
        sentence(20, "QUICK: how many moves; NONE: there is none.", () -> {
            due(4, () -> apart().moves(4));
            due(NONE, () -> Loops.adds(3).moves(2));
            due(0, () -> new OverlapMill().moves(1));
        });
        sentence(21, "The least d with a QUICK; NONE.", () -> {
            due(1, () -> new OverlapMill().quickest());
            due(2, () -> Loops.scale().quickest());
            OverlapMill ring = Loops.growth();
            ring.kind(ADD, 0, 6, 1);
            ring.kind(MULTIPLY, 1, 6, 1);
            due(12, () -> ring.quickest());
            ring.kind(ADD, 0, 6, 15);
            ring.kind(MULTIPLY, 0, 6, 15);
            due(12, () -> ring.quickest());
            due(NONE, () -> longRing(1).quickest());
            OverlapMill uses = Loops.adds(4);
            uses.kind(ADD, 0, 1, 15);
            due(NONE, () -> uses.quickest());
        });
        sentence(21, "IllegalStateException: the loop is not SOUND.", () -> {
            fails(STATE, () -> Loops.unsound().quickest());
        });
    }
}
