import java.util.Arrays;
import java.util.NoSuchElementException;

/** A pipeliner of loops; ../shared/DOC.md says what each call answers. */
public final class OverlapMill {
    public static final int NONE = -1;

    private static final int MOST_OPS = 8;
    private static final int PAIRS = MOST_OPS * MOST_OPS;
    private static final int KINDS = 6;
    private static final int LOADING = 4;
    private static final int STORING = 5;
    private static final int UNITS = 3;
    private static final int LAST_STEP = 12;
    private static final int MOST_TURNS = 40;
    private static final int PLACES = 64;
    private static final int MOST_TURNING = 40;
    private static final int WITHOUT_WAY = -100000;
    private static final int TURN_SOURCE = -1;
    private static final int NUMBER_SOURCE = -2;

    private final Body body;
    private final Web web;
    private final Web spare;
    private final Reach reach;
    private final Seeker seeker;
    private final Chart[] charts;
    private final Hasty hasty;
    private final Play play;
    private final Wheel wheel;
    private final Patience patience;
    private boolean sound;
    private boolean stale;

    public OverlapMill() {
        body = new Body();
        web = new Web();
        spare = new Web();
        reach = new Reach();
        seeker = new Seeker();
        charts = new Chart[LAST_STEP + 1];
        for (int d = 0; d <= LAST_STEP; d++) {
            charts[d] = new Chart();
        }
        hasty = new Hasty();
        play = new Play();
        wheel = new Wheel();
        patience = new Patience();
        stale = true;
    }

    public int reckon(int kind, int a, int da, int b, int db)
            throws IllegalArgumentException, IllegalStateException {
        if (kind < 0 || kind >= LOADING || !isSource(a, da) || !isSource(b, db)) {
            throw new IllegalArgumentException("the kind or a source is none");
        }
        return append(kind, a, da, b, db);
    }

    public int load(int row, int place) throws IllegalArgumentException, IllegalStateException {
        if (!isRowPlace(row, place)) {
            throw new IllegalArgumentException("the row or the place is none");
        }
        return append(LOADING, row, place, 0, 0);
    }

    public int store(int a, int da, int row, int place)
            throws IllegalArgumentException, IllegalStateException {
        if (!isSource(a, da) || !isRowPlace(row, place)) {
            throw new IllegalArgumentException("the source, the row or the place is none");
        }
        return append(STORING, a, da, row, place);
    }

    public int drop() throws IllegalStateException {
        if (body.size == 0) {
            throw new IllegalStateException("there is no op");
        }
        body.size--;
        stale = true;
        return body.size;
    }

    public int first(int op, int v) throws IndexOutOfBoundsException, IllegalArgumentException {
        requireOp(op);
        if (v < -9999 || v > 9999) {
            throw new IllegalArgumentException("the first value is none");
        }
        int before = body.firsts[op];
        body.firsts[op] = v;
        return before;
    }

    public void kind(int kind, int unit, int latency, int busy)
            throws IndexOutOfBoundsException, IllegalArgumentException {
        requireKind(kind);
        boolean known = unit >= 0 && unit < UNITS && latency >= 1 && latency <= 6;
        if (!known || busy < 1 || busy > 15) {
            throw new IllegalArgumentException("the unit, latency or busy is none");
        }
        body.unitOfKind[kind] = unit;
        body.latencyOfKind[kind] = latency;
        body.busyOfKind[kind] = busy;
        stale = true;
    }

    public int unit(int unit, int count) throws IndexOutOfBoundsException, IllegalArgumentException {
        requireUnit(unit);
        if (count < 1 || count > 3) {
            throw new IllegalArgumentException("the count is none");
        }
        int before = body.counts[unit];
        body.counts[unit] = count;
        stale = true;
        return before;
    }

    public int op(int op, int what) throws IndexOutOfBoundsException, NoSuchElementException {
        requireOp(op);
        requireWhat(what, 5);
        if (what == 0) {
            return body.kinds[op];
        }
        if (what == 5) {
            return body.firsts[op];
        }
        return body.parts[op * 4 + what - 1];
    }

    public boolean isSound() {
        refresh();
        return sound;
    }

    public int need(int need, int what)
            throws IllegalStateException, IndexOutOfBoundsException, NoSuchElementException {
        requireSound();
        requireNeed(need);
        requireWhat(what, 3);
        switch (what) {
            case 0:
                return web.from[need];
            case 1:
                return web.to[need];
            case 2:
                return web.distance[need];
            default:
                return web.delay[need];
        }
    }

    public int far(int from, int to, int d)
            throws IndexOutOfBoundsException, IllegalArgumentException, IllegalStateException {
        requireOp(from);
        requireOp(to);
        requireRounds(d);
        int way = reach.way[from * MOST_OPS + to];
        return way == WITHOUT_WAY ? -1000 : way;
    }

    public int height(int op, int d)
            throws IndexOutOfBoundsException, IllegalArgumentException, IllegalStateException {
        requireOp(op);
        requireRounds(d);
        return reach.above(op);
    }

    public int uses(int unit) throws IndexOutOfBoundsException {
        requireUnit(unit);
        return body.usesOf(unit);
    }

    public boolean fits(int d) throws IllegalArgumentException, IllegalStateException {
        requireStep(d);
        requireSound();
        return chartOf(d).fitting;
    }

    public int least() throws IllegalStateException {
        requireSound();
        for (int d = 1; d <= LAST_STEP; d++) {
            if (chartOf(d).fitting) {
                return d;
            }
        }
        return NONE;
    }

    public int time(int op, int d)
            throws IndexOutOfBoundsException, IllegalArgumentException, IllegalStateException {
        requireOp(op);
        return fittingChart(d).times[op];
    }

    public int ring(int unit, int slot, int d)
            throws IndexOutOfBoundsException, IllegalArgumentException, IllegalStateException {
        requireUnit(unit);
        requireStep(d);
        requireSlot(slot, d);
        return fittingChart(d).askedIn(body, unit, slot);
    }

    public int quick(int op, int d)
            throws IndexOutOfBoundsException, IllegalArgumentException, IllegalStateException {
        requireOp(op);
        requireRounds(d);
        hasty.seek(body, web, reach, d);
        return hasty.found ? hasty.times[op] : NONE;
    }

    public int moves(int d) throws IllegalArgumentException, IllegalStateException {
        requireRounds(d);
        hasty.seek(body, web, reach, d);
        return hasty.found ? hasty.made : NONE;
    }

    public int quickest() throws IllegalStateException {
        requireSound();
        for (int d = Math.max(1, web.rounds()); d <= LAST_STEP; d++) {
            reach.span(body, web, d);
            hasty.seek(body, web, reach, d);
            if (hasty.found) {
                return d;
            }
        }
        return NONE;
    }

    public int plan(int d, int what)
            throws NoSuchElementException, IllegalArgumentException, IllegalStateException {
        requireWhat(what, 6);
        Chart chart = fittingChart(d);
        switch (what) {
            case 0:
                return chart.reachEnd;
            case 1:
                return chart.stageCount;
            case 2:
                return chart.nameSum;
            case 3:
                return chart.unroll;
            case 4:
                return chart.pairedSum();
            case 5:
                return chart.aliveIn(chart.fullestSlot());
            default:
                return chart.fullestSlot();
        }
    }

    public int life(int op, int d, int what) throws IndexOutOfBoundsException,
            NoSuchElementException, IllegalArgumentException, IllegalStateException {
        requireOp(op);
        requireWhat(what, 5);
        Chart chart = fittingChart(d);
        switch (what) {
            case 0:
                return chart.stageOf(op);
            case 1:
                return chart.slots[op];
            case 2:
                return chart.lives[op];
            case 3:
                return chart.copies[op];
            case 4:
                return chart.paired[op];
            default:
                return chart.looseOf(web, op);
        }
    }

    public int alive(int slot, int d) throws IllegalArgumentException, IllegalStateException {
        requireStep(d);
        requireSlot(slot, d);
        return fittingChart(d).aliveIn(slot);
    }

    public int flat(int op, int cycle, int d, int n)
            throws IndexOutOfBoundsException, IllegalArgumentException, IllegalStateException {
        requireOp(op);
        requireStep(d);
        requireTurns(n);
        if (cycle < 0) {
            throw new IllegalArgumentException("the cycle is below 0");
        }
        return fittingChart(d).turnBegun(op, cycle, n);
    }

    public int cycles(int d, int n, int what)
            throws NoSuchElementException, IllegalArgumentException, IllegalStateException {
        requireWhat(what, 3);
        requireStep(d);
        requireTurns(n);
        Chart chart = fittingChart(d);
        switch (what) {
            case 0:
                return chart.cyclesOf(n);
            case 1:
                return chart.headOf(n);
            case 2:
                return chart.ringOf(n);
            default:
                return chart.cyclesOf(n) - chart.headOf(n) - chart.ringOf(n);
        }
    }

    /** NEEDS and PAIRED names keep RUN to what PLAIN comes to, so PLAIN is what is reckoned. */
    public int run(int row, int place, int d, int n)
            throws IllegalArgumentException, IllegalStateException {
        requireCell(row, place);
        requireStep(d);
        requireTurns(n);
        fittingChart(d);
        play.turns(body, n);
        return play.rows[row][place];
    }

    public int comes(int op, int d, int n)
            throws IndexOutOfBoundsException, IllegalArgumentException, IllegalStateException {
        requireOp(op);
        requireNoStore(op);
        requireStep(d);
        requireTurns(n);
        fittingChart(d);
        play.turns(body, n);
        return play.valueOf(body, op, n - 1);
    }

    public int plain(int row, int place, int n)
            throws IllegalArgumentException, IllegalStateException {
        requireCell(row, place);
        requireTurns(n);
        requireSound();
        play.turns(body, n);
        return play.rows[row][place];
    }

    public boolean gate(int op, int r, int d, int n)
            throws IndexOutOfBoundsException, IllegalArgumentException, IllegalStateException {
        requireOp(op);
        requireStep(d);
        requireTurns(n);
        if (r < 0 || n == 0) {
            throw new IllegalArgumentException("there is no such time");
        }
        Chart chart = fittingChart(d);
        if (r >= n + chart.stageCount - 1) {
            throw new IllegalArgumentException("there is no such time");
        }
        int turn = r - chart.stageOf(op);
        return turn >= 0 && turn < n;
    }

    public int code(int d, boolean gated) throws IllegalArgumentException, IllegalStateException {
        Chart chart = fittingChart(d);
        if (gated) {
            return body.size;
        }
        return body.size * (chart.stageCount - 1) + body.size * chart.unroll;
    }

    public int peel(int d, int n, boolean cycles)
            throws IllegalArgumentException, IllegalStateException {
        requireStep(d);
        requireTurns(n);
        Chart chart = fittingChart(d);
        int peeled = chart.peeledOf(n);
        if (!cycles) {
            return peeled;
        }
        return peeled * body.latencySum() + chart.cyclesOf(n - peeled);
    }

    public int turning(int d) throws IllegalArgumentException, IllegalStateException {
        Chart chart = fittingChart(d);
        for (int r = 1; r <= MOST_TURNING; r++) {
            if (wheel.settleAll(chart, r)) {
                return r;
            }
        }
        return NONE;
    }

    public int rotary(int op, int d, int r)
            throws IndexOutOfBoundsException, IllegalArgumentException, IllegalStateException {
        requireOp(op);
        requireStep(d);
        if (r < 1 || r > MOST_TURNING) {
            throw new IllegalArgumentException("R is none");
        }
        wheel.settleAll(fittingChart(d), r);
        return wheel.places[op];
    }

    public int name(int op, int k, int cycle, int d, int n)
            throws IndexOutOfBoundsException, IllegalArgumentException, IllegalStateException {
        requireOp(op);
        requireNoStore(op);
        requireStep(d);
        requireTurns(n);
        if (k < 0 || cycle < 0 || (n == 0 && cycle > 0)) {
            throw new IllegalArgumentException("there is no such name or cycle");
        }
        Chart chart = fittingChart(d);
        if (k >= chart.paired[op] || cycle > chart.cyclesOf(n)) {
            throw new IllegalArgumentException("there is no such name or cycle");
        }
        play.turns(body, n);
        return play.valueOf(body, op, chart.turnInName(op, k, cycle, n));
    }

    public int rate(boolean lower) throws IllegalStateException {
        requireSound();
        return lower ? web.lower : web.upper;
    }

    public int critical() throws IllegalStateException {
        requireSound();
        return web.critical;
    }

    public int fold(int k) throws IllegalArgumentException, IllegalStateException {
        if (k < 1 || k > 4) {
            throw new IllegalArgumentException("k is none");
        }
        requireSound();
        return foldBound(k);
    }

    public int bestFold() throws IllegalStateException {
        requireSound();
        int best = 1;
        int bound = foldBound(1);
        for (int k = 2; k <= 4; k++) {
            int other = foldBound(k);
            if (other * best < bound * k) {
                best = k;
                bound = other;
            }
        }
        return best;
    }

    public int faster(int kind) throws IndexOutOfBoundsException, IllegalStateException {
        requireKind(kind);
        requireSound();
        if (body.latencyOfKind[kind] == 1) {
            throw new IllegalStateException("its latency is 1");
        }
        spare.weave(body, kind);
        spare.weigh(body.size);
        return Math.max(1, Math.max(spare.rounds(), body.byUnits(NONE, 1)));
    }

    public int without(int need) throws IllegalStateException, IndexOutOfBoundsException {
        requireSound();
        requireNeed(need);
        spare.takeAllBut(web, need);
        spare.weigh(body.size);
        return spare.rounds();
    }

    public int idle(int unit, int d)
            throws IndexOutOfBoundsException, IllegalArgumentException, IllegalStateException {
        requireUnit(unit);
        fittingChart(d);
        return d * body.counts[unit] - body.usesOf(unit);
    }

    public int bare(int op, int d, boolean latest)
            throws IndexOutOfBoundsException, IllegalArgumentException, IllegalStateException {
        requireOp(op);
        requireRounds(d);
        return latest ? reach.latestOf(body, op) : reach.soonestOf(op);
    }

    public int who(int unit, int slot, int d)
            throws IndexOutOfBoundsException, IllegalArgumentException, IllegalStateException {
        requireUnit(unit);
        requireStep(d);
        requireSlot(slot, d);
        return fittingChart(d).usersIn(body, unit, slot);
    }

    public int holes(int d, int n) throws IllegalArgumentException, IllegalStateException {
        requireStep(d);
        requireTurns(n);
        return fittingChart(d).cyclesWithoutBegin(n);
    }

    public int late(int d, int n, int m, int e)
            throws IllegalArgumentException, IllegalStateException {
        requireStep(d);
        requireTurns(n);
        if (m < 1 || m > 9 || e < 1 || e > 9) {
            throw new IllegalArgumentException("m or e is none");
        }
        return patience.waited(body, fittingChart(d), n, m, e);
    }

    public int pays(int d) throws IllegalArgumentException, IllegalStateException {
        Chart chart = fittingChart(d);
        int together = body.latencySum();
        for (int n = 1; n <= MOST_TURNS; n++) {
            if (chart.cyclesOf(n) < n * together) {
                return n;
            }
        }
        return NONE;
    }

    public int more(int unit) throws IndexOutOfBoundsException, IllegalStateException {
        requireUnit(unit);
        requireSound();
        return Math.max(1, Math.max(web.rounds(), body.byUnits(unit, 1)));
    }

    public int squeeze(int r) throws IllegalArgumentException, IllegalStateException {
        if (r < 0 || r > 99) {
            throw new IllegalArgumentException("r is none");
        }
        requireSound();
        for (int d = 1; d <= LAST_STEP; d++) {
            Chart chart = chartOf(d);
            if (chart.fitting && chart.nameSum <= r) {
                return d;
            }
        }
        return NONE;
    }

    public int count(int what) {
        refresh();
        if (what == 0) {
            return body.size;
        }
        if (what >= 1 && what <= 4 && !sound) {
            return NONE;
        }
        switch (what) {
            case 1:
                return web.size;
            case 2:
                return web.rounds();
            case 3:
                return body.byUnits(NONE, 1);
            case 4:
                return foldBound(1);
            case 5:
                return body.latencySum();
            case 6:
            case 7:
            case 8:
                return body.counts[what - 6];
            default:
                return NONE;
        }
    }

    private int append(int kind, int one, int two, int three, int four) {
        if (body.size >= MOST_OPS) {
            throw new IllegalStateException("there are 8 ops");
        }
        body.put(kind, one, two, three, four);
        stale = true;
        return body.size - 1;
    }

    /** BOUND of k TURNS taken as one; with k 1 it is BOUND itself. */
    private int foldBound(int k) {
        return Math.max(1, Math.max(roundUp(k * web.upper, web.lower), body.byUnits(NONE, k)));
    }

    private void refresh() {
        if (!stale) {
            return;
        }
        stale = false;
        sound = body.isWhole();
        if (sound) {
            web.weave(body, NONE);
            web.weigh(body.size);
        }
        reach.step = 0;
        hasty.step = 0;
        for (int d = 0; d <= LAST_STEP; d++) {
            charts[d].tried = false;
        }
    }

    private Chart chartOf(int d) {
        Chart chart = charts[d];
        if (!chart.tried) {
            chart.tried = true;
            chart.fitting = false;
            if (d >= web.rounds()) {
                reach.span(body, web, d);
                chart.fitting = seeker.holdsByUnits(body, d) && seeker.findFirst(reach.way);
            }
            if (chart.fitting) {
                chart.draw(body, web, seeker.slots, d);
            }
        }
        return chart;
    }

    private Chart fittingChart(int d) {
        requireStep(d);
        requireSound();
        Chart chart = chartOf(d);
        if (!chart.fitting) {
            throw new IllegalStateException("d does not fit");
        }
        return chart;
    }

    private void requireSound() {
        refresh();
        if (!sound) {
            throw new IllegalStateException("the loop is not sound");
        }
    }

    /** Behind this the ways of reach are those of d. */
    private void requireRounds(int d) {
        requireStep(d);
        requireSound();
        if (d < web.rounds()) {
            throw new IllegalStateException("d is less than rounds");
        }
        reach.span(body, web, d);
    }

    private void requireOp(int op) {
        if (op < 0 || op >= body.size) {
            throw new IndexOutOfBoundsException("there is no such op");
        }
    }

    private void requireUnit(int unit) {
        if (unit < 0 || unit >= UNITS) {
            throw new IndexOutOfBoundsException("there is no such unit");
        }
    }

    private void requireKind(int kind) {
        if (kind < 0 || kind >= KINDS) {
            throw new IndexOutOfBoundsException("there is no such kind");
        }
    }

    private void requireNeed(int need) {
        if (need < 0 || need >= web.size) {
            throw new IndexOutOfBoundsException("there is no such need");
        }
    }

    private void requireNoStore(int op) {
        if (body.kinds[op] == STORING) {
            throw new IllegalArgumentException("it is a store");
        }
    }

    private static void requireWhat(int what, int last) {
        if (what < 0 || what > last) {
            throw new NoSuchElementException("there is no such what");
        }
    }

    private static void requireStep(int d) {
        if (d < 1 || d > LAST_STEP) {
            throw new IllegalArgumentException("d is none");
        }
    }

    private static void requireSlot(int slot, int d) {
        if (slot < 0 || slot >= d) {
            throw new IllegalArgumentException("the slot is none");
        }
    }

    private static void requireTurns(int n) {
        if (n < 0 || n > MOST_TURNS) {
            throw new IllegalArgumentException("n is none");
        }
    }

    private static void requireCell(int row, int place) {
        if (row < 0 || row > 1 || place < 0 || place >= PLACES) {
            throw new IllegalArgumentException("the row or the place is none");
        }
    }

    private static boolean isSource(int a, int da) {
        if (a == TURN_SOURCE) {
            return true;
        }
        if (a == NUMBER_SOURCE) {
            return da >= -99 && da <= 99;
        }
        return a >= 0 && a < MOST_OPS && da >= 0 && da <= 3;
    }

    private static boolean isRowPlace(int row, int place) {
        return row >= 0 && row <= 1 && place >= 0 && place <= 7;
    }

    /** The quotient rounded up; without a divisor above 0 there is nothing to share out. */
    private static int roundUp(int upper, int lower) {
        return lower <= 0 ? 0 : -Math.floorDiv(-upper, lower);
    }

    /** OPS, KINDS and UNITS as they were told. */
    private static final class Body {
        private int size;
        private final int[] kinds = new int[MOST_OPS];
        private final int[] parts = new int[MOST_OPS * 4];
        private final int[] firsts = new int[MOST_OPS];
        private final int[] unitOfKind = {0, 0, 1, 0, 2, 2};
        private final int[] latencyOfKind = {1, 1, 3, 1, 2, 1};
        private final int[] busyOfKind = {1, 1, 3, 1, 1, 1};
        private final int[] counts = {1, 1, 1};

        private void put(int kind, int one, int two, int three, int four) {
            kinds[size] = kind;
            parts[size * 4] = one;
            parts[size * 4 + 1] = two;
            parts[size * 4 + 2] = three;
            parts[size * 4 + 3] = four;
            firsts[size] = 0;
            size++;
        }

        private int latencyAt(int op) {
            return latencyOfKind[kinds[op]];
        }

        private int unitAt(int op) {
            return unitOfKind[kinds[op]];
        }

        private int busyAt(int op) {
            return busyOfKind[kinds[op]];
        }

        private int sourcesOf(int op) {
            if (kinds[op] == LOADING) {
                return 0;
            }
            return kinds[op] == STORING ? 1 : 2;
        }

        private int sourceAt(int op, int which) {
            return parts[op * 4 + which * 2];
        }

        private int distanceAt(int op, int which) {
            return parts[op * 4 + which * 2 + 1];
        }

        private int rowAt(int op) {
            return kinds[op] == STORING ? parts[op * 4 + 2] : parts[op * 4];
        }

        private int placeAt(int op) {
            return kinds[op] == STORING ? parts[op * 4 + 3] : parts[op * 4 + 1];
        }

        private boolean isWhole() {
            for (int op = 0; op < size; op++) {
                for (int which = 0; which < sourcesOf(op); which++) {
                    if (!holdsSource(op, sourceAt(op, which), distanceAt(op, which))) {
                        return false;
                    }
                }
            }
            return true;
        }

        private boolean holdsSource(int op, int source, int distance) {
            if (source < 0) {
                return true;
            }
            if (source >= size || kinds[source] == STORING) {
                return false;
            }
            return distance > 0 || source < op;
        }

        private int usesOf(int unit) {
            int sum = 0;
            for (int op = 0; op < size; op++) {
                if (unitAt(op) == unit) {
                    sum += Integer.bitCount(busyAt(op));
                }
            }
            return sum;
        }

        private int latencySum() {
            int sum = 0;
            for (int op = 0; op < size; op++) {
                sum += latencyAt(op);
            }
            return sum;
        }

        /** BY UNITS for k TURNS at once, one UNIT (or NONE) having a COUNT of one more. */
        private int byUnits(int richer, int k) {
            int most = 0;
            for (int unit = 0; unit < UNITS; unit++) {
                int had = unit == richer ? counts[unit] + 1 : counts[unit];
                most = Math.max(most, roundUp(k * usesOf(unit), had));
            }
            return most;
        }
    }

    /** NEEDS in their order, and what their rings come to. */
    private static final class Web {
        private static final int MOST = 64;
        private int size;
        private final int[] from = new int[MOST];
        private final int[] to = new int[MOST];
        private final int[] distance = new int[MOST];
        private final int[] delay = new int[MOST];
        private int upper;
        private int lower = 1;
        private int critical;

        private int rounds() {
            return roundUp(upper, lower);
        }

        /** The LATENCY of one KIND (or of NONE) is taken as one less. */
        private void weave(Body body, int quicker) {
            size = 0;
            for (int op = 0; op < body.size; op++) {
                for (int which = 0; which < body.sourcesOf(op); which++) {
                    int source = body.sourceAt(op, which);
                    if (source >= 0) {
                        insert(source, op, body.distanceAt(op, which),
                                latencyBut(body, source, quicker));
                    }
                }
            }
            for (int one = 0; one < body.size; one++) {
                for (int two = one + 1; two < body.size; two++) {
                    weaveRows(body, one, two, quicker);
                }
            }
        }

        private static int latencyBut(Body body, int op, int quicker) {
            int latency = body.latencyAt(op);
            return body.kinds[op] == quicker ? latency - 1 : latency;
        }

        private void weaveRows(Body body, int one, int two, int quicker) {
            if (body.kinds[one] < LOADING || body.kinds[two] < LOADING) {
                return;
            }
            if (body.rowAt(one) != body.rowAt(two)) {
                return;
            }
            boolean oneAhead = body.placeAt(one) >= body.placeAt(two);
            int ahead = oneAhead ? one : two;
            int behind = oneAhead ? two : one;
            int between = body.placeAt(ahead) - body.placeAt(behind);
            boolean aheadStores = body.kinds[ahead] == STORING;
            boolean behindStores = body.kinds[behind] == STORING;
            if (aheadStores && behindStores) {
                insert(ahead, behind, between, 1);
            } else if (aheadStores) {
                insert(ahead, behind, between, latencyBut(body, ahead, quicker));
            } else if (behindStores) {
                insert(ahead, behind, between, 1 - latencyBut(body, behind, quicker));
            }
        }

        private void insert(int source, int target, int apart, int wait) {
            int at = 0;
            int order = NONE;
            while (at < size) {
                order = compareAt(at, source, target, apart, wait);
                if (order >= 0) {
                    break;
                }
                at++;
            }
            if ((at < size && order == 0) || size >= MOST) {
                return;
            }
            for (int i = size; i > at; i--) {
                set(i, from[i - 1], to[i - 1], distance[i - 1], delay[i - 1]);
            }
            set(at, source, target, apart, wait);
            size++;
        }

        private int compareAt(int at, int source, int target, int apart, int wait) {
            if (from[at] != source) {
                return from[at] - source;
            }
            if (to[at] != target) {
                return to[at] - target;
            }
            if (distance[at] != apart) {
                return distance[at] - apart;
            }
            return delay[at] - wait;
        }

        private void set(int at, int source, int target, int apart, int wait) {
            from[at] = source;
            to[at] = target;
            distance[at] = apart;
            delay[at] = wait;
        }

        private void takeAllBut(Web other, int left) {
            size = 0;
            for (int i = 0; i < other.size; i++) {
                if (i != left) {
                    set(size, other.from[i], other.to[i], other.distance[i], other.delay[i]);
                    size++;
                }
            }
        }

        private void weigh(int ops) {
            upper = 0;
            lower = 1;
            critical = 0;
            for (int start = 0; start < ops; start++) {
                goOn(start, start, 1 << start, 0, 0);
            }
            int shared = commonDivisor(upper, lower);
            if (shared > 1) {
                upper /= shared;
                lower /= shared;
            }
        }

        /** Each ring is gone round once, from its least OP; the bits of been keep this from going deep. */
        private void goOn(int start, int at, int been, int delays, int distances) {
            for (int i = 0; i < size; i++) {
                if (from[i] != at || to[i] < start) {
                    continue;
                }
                if (to[i] == start) {
                    weighRing(been, delays + delay[i], distances + distance[i]);
                } else if ((been & (1 << to[i])) == 0) {
                    goOn(start, to[i], been | (1 << to[i]), delays + delay[i],
                            distances + distance[i]);
                }
            }
        }

        private void weighRing(int been, int delays, int distances) {
            if (delays <= 0 || distances <= 0) {
                return;
            }
            int more = delays * lower - upper * distances;
            if (more > 0) {
                upper = delays;
                lower = distances;
                critical = been;
            } else if (more == 0) {
                critical = Math.min(critical, been);
            }
        }

        private static int commonDivisor(int one, int other) {
            int a = one;
            int b = other;
            for (int i = 0; i < 100 && b != 0; i++) {
                int rest = a % b;
                a = b;
                b = rest;
            }
            return a;
        }
    }

    /** FAR of all OPS for one STEP at a time. */
    private static final class Reach {
        private int size;
        private int step;
        private final int[] way = new int[PAIRS];

        private void span(Body body, Web web, int d) {
            if (step == d) {
                return;
            }
            step = d;
            size = body.size;
            Arrays.fill(way, WITHOUT_WAY);
            for (int i = 0; i < web.size; i++) {
                int at = web.from[i] * MOST_OPS + web.to[i];
                way[at] = Math.max(way[at], web.delay[i] - d * web.distance[i]);
            }
            for (int over = 0; over < size; over++) {
                for (int from = 0; from < size; from++) {
                    if (way[from * MOST_OPS + over] != WITHOUT_WAY) {
                        goOver(from, over);
                    }
                }
            }
        }

        private void goOver(int from, int over) {
            int ahead = way[from * MOST_OPS + over];
            for (int to = 0; to < size; to++) {
                int behind = way[over * MOST_OPS + to];
                if (behind != WITHOUT_WAY) {
                    int at = from * MOST_OPS + to;
                    way[at] = Math.max(way[at], ahead + behind);
                }
            }
        }

        private int above(int op) {
            int most = 0;
            for (int to = 0; to < size; to++) {
                most = Math.max(most, way[op * MOST_OPS + to]);
            }
            return most;
        }

        private int soonestOf(int op) {
            int most = 0;
            for (int from = 0; from < size; from++) {
                most = Math.max(most, way[from * MOST_OPS + op]);
            }
            return most;
        }

        private int latestOf(Body body, int op) {
            int end = 0;
            for (int i = 0; i < size; i++) {
                end = Math.max(end, soonestOf(i) + body.latencyAt(i));
            }
            int latest = end - body.latencyAt(op);
            for (int to = 0; to < size; to++) {
                int behind = way[op * MOST_OPS + to];
                if (behind != WITHOUT_WAY) {
                    latest = Math.min(latest, end - body.latencyAt(to) - behind);
                }
            }
            return latest;
        }
    }

    /**
     * SLOTS of the FIRST PLAN. SLOTS of two OPS bear on one another only if they share a UNIT or
     * stand on one ring of NEEDS, so groups of such OPS are settled apart. A group can be turned
     * round as a whole, so its first OP stands in SLOT 0.
     */
    private static final class Seeker {
        private int size;
        private int step;
        private int full;
        private int members;
        private int placed;
        private final int[] slots = new int[MOST_OPS];
        private final int[] witness = new int[MOST_OPS];
        private final int[] units = new int[MOST_OPS];
        private final int[] counts = new int[UNITS];
        private final int[] sharers = new int[UNITS];
        private final int[] asks = new int[MOST_OPS * 4];
        private final int[] planes = new int[UNITS * 4];
        private final int[] kept = new int[MOST_OPS * 4];
        private final int[] ties = new int[PAIRS];
        private final int[] keptTies = new int[MOST_OPS * PAIRS];
        private final int[] into = new int[MOST_OPS];
        private final int[] outOf = new int[MOST_OPS];
        private final int[] tied = new int[MOST_OPS];
        private final int[] twins = new int[MOST_OPS];
        private final int[] weights = new int[MOST_OPS];

        /** Looks at each UNIT alone, NEEDS aside: what fails there is found soon. */
        private boolean holdsByUnits(Body body, int d) {
            if (!take(body, d)) {
                return false;
            }
            Arrays.fill(tied, 0);
            Arrays.fill(weights, 1);
            pairTwins();
            int seen = 0;
            for (int op = 0; op < size; op++) {
                if ((seen & (1 << op)) == 0) {
                    members = sharers[units[op]];
                    seen |= members;
                    boolean held = place(op, 0) && settle(0);
                    lift(op);
                    if (!held) {
                        return false;
                    }
                }
            }
            return true;
        }

        /** Behind holdsByUnits: OP by OP the least SLOT with which the rest of its group finds some. */
        private boolean findFirst(int[] ways) {
            tieAll(ways);
            pairTwins();
            for (int op = 0; op < size; op++) {
                members = groupOf(op);
                boolean leads = (members & placed) == 0;
                int open = leads ? 1 : openTo(op);
                boolean held = false;
                for (int slot = 0; slot < step && !held; slot++) {
                    if ((open & (1 << slot)) != 0) {
                        // The witness stands with all that is placed, so its SLOT needs no search.
                        boolean known = !leads && slot == witness[op];
                        held = place(op, slot) && (known || settle(0));
                        if (!held) {
                            lift(op);
                        }
                    }
                }
                if (!held) {
                    return false;
                }
            }
            return true;
        }

        /** False, if a UNIT is asked too much wherever the OPS are put. */
        private boolean take(Body body, int d) {
            size = body.size;
            step = d;
            full = (1 << d) - 1;
            placed = 0;
            for (int unit = 0; unit < UNITS; unit++) {
                counts[unit] = body.counts[unit];
                if (body.usesOf(unit) > d * counts[unit]) {
                    return false;
                }
                sharers[unit] = 0;
                planes[unit * 4] = full;
                planes[unit * 4 + 1] = 0;
                planes[unit * 4 + 2] = 0;
                planes[unit * 4 + 3] = 0;
            }
            for (int op = 0; op < size; op++) {
                units[op] = body.unitAt(op);
                sharers[units[op]] |= 1 << op;
                if (!takeBusy(op, body.busyAt(op))) {
                    return false;
                }
            }
            return true;
        }

        private boolean takeBusy(int op, int busy) {
            for (int r = 0; r < 4; r++) {
                asks[op * 4 + r] = 0;
            }
            for (int r = 0; r < 4; r++) {
                if ((busy & (1 << r)) != 0) {
                    int at = op * 4 + r % step;
                    asks[at]++;
                    if (asks[at] > counts[units[op]]) {
                        return false;
                    }
                }
            }
            return true;
        }

        /** OPS on one ring of NEEDS are tied: each of them can be no more than so far behind the other. */
        private void tieAll(int[] ways) {
            System.arraycopy(ways, 0, ties, 0, PAIRS);
            for (int op = 0; op < size; op++) {
                tied[op] = 0;
                for (int other = 0; other < size; other++) {
                    boolean there = ties[op * MOST_OPS + other] != WITHOUT_WAY;
                    if (other != op && there && ties[other * MOST_OPS + op] != WITHOUT_WAY) {
                        tied[op] |= 1 << other;
                    }
                }
            }
        }

        private void pairTwins() {
            for (int op = 0; op < size; op++) {
                twins[op] = 0;
                for (int other = 0; other < size; other++) {
                    if (other != op && areTwins(op, other)) {
                        twins[op] |= 1 << other;
                    }
                }
            }
        }

        /** Twins may change places, so in a FIRST PLAN their SLOTS never come down. */
        private boolean areTwins(int one, int other) {
            if (tied[one] != 0 || tied[other] != 0 || units[one] != units[other]) {
                return false;
            }
            for (int r = 0; r < 4; r++) {
                if (asks[one * 4 + r] != asks[other * 4 + r]) {
                    return false;
                }
            }
            return true;
        }

        private int groupOf(int op) {
            int group = 1 << op;
            int before = 0;
            for (int pass = 0; pass < MOST_OPS && group != before; pass++) {
                before = group;
                for (int one = 0; one < size; one++) {
                    if ((group & (1 << one)) != 0) {
                        group |= tied[one] | sharers[units[one]];
                    }
                }
            }
            return group;
        }

        /** Whether the rest of the group finds SLOTS; they are told in witness, and none stays placed. */
        private boolean settle(int depth) {
            int op = NONE;
            int open = full;
            for (int other = 0; other < size && open != 0; other++) {
                if ((members & ~placed & (1 << other)) != 0) {
                    int seen = openTo(other);
                    if (op == NONE || seen == 0 || isHarder(other, seen, op, open)) {
                        op = other;
                        open = seen;
                    }
                }
            }
            if (op == NONE) {
                keepWitness();
                return true;
            }
            if (open == 0) {
                weights[op]++;
            }
            if (depth > MOST_OPS) {
                return false;
            }
            boolean found = false;
            for (int slot = 0; slot < step && !found; slot++) {
                if ((open & (1 << slot)) != 0) {
                    found = place(op, slot) && settle(depth + 1);
                    lift(op);
                }
            }
            return found;
        }

        /** OPS that found no SLOT before are taken as harder, so that what fails does so soon. */
        private boolean isHarder(int one, int openToOne, int other, int openToOther) {
            return Integer.bitCount(openToOne) * weights[other]
                    < Integer.bitCount(openToOther) * weights[one];
        }

        private void keepWitness() {
            for (int op = 0; op < size; op++) {
                if ((members & (1 << op)) != 0) {
                    witness[op] = slots[op];
                }
            }
        }

        private int openTo(int op) {
            int open = full;
            int unit = units[op];
            for (int r = 0; r < 4; r++) {
                int ask = asks[op * 4 + r];
                if (ask > 0) {
                    open &= ~turned(planes[unit * 4 + counts[unit] - ask + 1], step - r);
                }
            }
            int near = (tied[op] | twins[op]) & placed;
            for (int other = 0; other < size && near != 0 && open != 0; other++) {
                if ((near & (1 << other)) == 0) {
                    continue;
                }
                if ((tied[op] & (1 << other)) != 0) {
                    open &= windowOf(op, other);
                } else if (other < op) {
                    open &= full << slots[other];
                } else {
                    open &= (2 << slots[other]) - 1;
                }
            }
            return open;
        }

        /** Bits of the SLOTS that op may have by its ties with a placed one. */
        private int windowOf(int op, int other) {
            int lowest = ties[other * MOST_OPS + op];
            int width = 1 - ties[op * MOST_OPS + other] - lowest;
            if (width >= step) {
                return full;
            }
            int start = Math.floorMod(slots[other] + lowest, step);
            int bits = width <= 0 ? 0 : (1 << width) - 1;
            return ((bits << start) | (bits >> (step - start))) & full;
        }

        /** The bits of a ring, each carried on by so many SLOTS (0 to step). */
        private int turned(int bits, int by) {
            return ((bits << by) | (bits >> (step - by))) & full;
        }

        /** False, if a ring of NEEDS does not hold with it; it is to be lifted then all the same. */
        private boolean place(int op, int slot) {
            int plane = units[op] * 4;
            System.arraycopy(planes, plane, kept, op * 4, 4);
            slots[op] = slot;
            placed |= 1 << op;
            for (int r = 0; r < 4; r++) {
                for (int ask = asks[op * 4 + r]; ask > 0; ask--) {
                    int bit = 1 << ((slot + r) % step);
                    planes[plane + 3] |= planes[plane + 2] & bit;
                    planes[plane + 2] |= planes[plane + 1] & bit;
                    planes[plane + 1] |= bit;
                }
            }
            if (!hasManyTies(op)) {
                return true;
            }
            System.arraycopy(ties, 0, keptTies, op * PAIRS, PAIRS);
            if (!align(op)) {
                return false;
            }
            tighten(op);
            return true;
        }

        private void lift(int op) {
            System.arraycopy(kept, op * 4, planes, units[op] * 4, 4);
            placed &= ~(1 << op);
            if (hasManyTies(op)) {
                System.arraycopy(keptTies, op * PAIRS, ties, 0, PAIRS);
            }
        }

        /** Of two OPS alone the ties tell all; only with a third one there is something to draw. */
        private boolean hasManyTies(int op) {
            return Integer.bitCount(tied[op]) >= 2;
        }

        /**
         * How far op is behind its mates and they behind it, now that it has a SLOT: the ways between
         * placed OPS are rounded up to their SLOTS. False, if a ring asks too much by that.
         */
        private boolean align(int op) {
            int held = tied[op] & placed;
            for (int i = 0; i < size; i++) {
                into[i] = ties[i * MOST_OPS + op];
                outOf[i] = ties[op * MOST_OPS + i];
                if ((held & (1 << i)) != 0) {
                    into[i] += Math.floorMod(slots[op] - slots[i] - into[i], step);
                    outOf[i] += Math.floorMod(slots[i] - slots[op] - outOf[i], step);
                }
            }
            for (int i = 0; i < size; i++) {
                if ((tied[op] & (1 << i)) == 0) {
                    continue;
                }
                for (int by = 0; by < size; by++) {
                    if ((held & (1 << by)) != 0) {
                        into[i] = Math.max(into[i], ties[i * MOST_OPS + by] + into[by]);
                        outOf[i] = Math.max(outOf[i], outOf[by] + ties[by * MOST_OPS + i]);
                    }
                }
                if (into[i] + outOf[i] > 0) {
                    return false;
                }
            }
            return true;
        }

        /** Draws what follows for all pairs of mates from what align told of op. */
        private void tighten(int op) {
            for (int i = 0; i < size; i++) {
                if ((tied[op] & (1 << i)) == 0) {
                    continue;
                }
                ties[i * MOST_OPS + op] = into[i];
                ties[op * MOST_OPS + i] = outOf[i];
                for (int j = 0; j < size; j++) {
                    if (j != i && (tied[op] & (1 << j)) != 0) {
                        int at = i * MOST_OPS + j;
                        ties[at] = Math.max(ties[at], into[i] + outOf[j]);
                    }
                }
            }
        }
    }

    /** The FIRST PLAN for one STEP and what follows from it. */
    private static final class Chart {
        private boolean tried;
        private boolean fitting;
        private int size;
        private int step = 1;
        private int reachEnd;
        private int stageCount;
        private int nameSum;
        private int unroll;
        private final int[] slots = new int[MOST_OPS];
        private final int[] times = new int[MOST_OPS];
        private final int[] comings = new int[MOST_OPS];
        private final int[] lives = new int[MOST_OPS];
        private final int[] copies = new int[MOST_OPS];
        private final int[] paired = new int[MOST_OPS];

        private void draw(Body body, Web web, int[] found, int d) {
            size = body.size;
            step = d;
            System.arraycopy(found, 0, slots, 0, MOST_OPS);
            drawTimes(web);
            reachEnd = 0;
            stageCount = 1;
            for (int op = 0; op < size; op++) {
                comings[op] = times[op] + body.latencyAt(op);
                reachEnd = Math.max(reachEnd, comings[op]);
                stageCount = Math.max(stageCount, stageOf(op) + 1);
            }
            drawLives(body);
            drawNames(body);
        }

        /** Whole turns of the ring are added till all NEEDS hold; the SLOTS let this end. */
        private void drawTimes(Web web) {
            for (int op = 0; op < size; op++) {
                times[op] = slots[op];
            }
            boolean changed = true;
            for (int pass = 0; pass <= MOST_OPS && changed; pass++) {
                changed = false;
                for (int i = 0; i < web.size; i++) {
                    int to = web.to[i];
                    int lacks = times[web.from[i]] + web.delay[i] - step * web.distance[i] - times[to];
                    if (lacks > 0) {
                        times[to] += roundUp(lacks, step) * step;
                        changed = true;
                    }
                }
            }
        }

        private void drawLives(Body body) {
            Arrays.fill(lives, 0);
            for (int user = 0; user < size; user++) {
                for (int which = 0; which < body.sourcesOf(user); which++) {
                    int source = body.sourceAt(user, which);
                    if (source >= 0) {
                        int last = times[user] + step * body.distanceAt(user, which);
                        lives[source] = Math.max(lives[source], last - comings[source] + 1);
                    }
                }
            }
        }

        private void drawNames(Body body) {
            nameSum = 0;
            unroll = 1;
            for (int op = 0; op < size; op++) {
                boolean stores = body.kinds[op] == STORING;
                copies[op] = stores ? 0 : Math.max(1, roundUp(lives[op], step));
                nameSum += copies[op];
                unroll = Math.max(unroll, copies[op]);
            }
            for (int op = 0; op < size; op++) {
                paired[op] = copies[op];
                while (paired[op] > 0 && paired[op] < unroll && unroll % paired[op] != 0) {
                    paired[op]++;
                }
            }
        }

        private int pairedSum() {
            int sum = 0;
            for (int op = 0; op < size; op++) {
                sum += paired[op];
            }
            return sum;
        }

        private int stageOf(int op) {
            return step <= 0 ? 0 : times[op] / step;
        }

        private int aliveIn(int slot) {
            int sum = 0;
            for (int op = 0; op < size; op++) {
                int ahead = Math.floorMod(slot - comings[op], step);
                if (ahead < lives[op]) {
                    sum += (lives[op] - ahead - 1) / step + 1;
                }
            }
            return sum;
        }

        private int fullestSlot() {
            int best = 0;
            int most = aliveIn(0);
            for (int slot = 1; slot < step; slot++) {
                int here = aliveIn(slot);
                if (here > most) {
                    most = here;
                    best = slot;
                }
            }
            return best;
        }

        private int looseOf(Web web, int op) {
            int loose = 99;
            for (int i = 0; i < web.size; i++) {
                int to = web.to[i];
                if (web.from[i] == op && to != op) {
                    int room = times[to] - times[op] - web.delay[i] + step * web.distance[i];
                    loose = Math.min(loose, room);
                }
            }
            return loose;
        }

        /** How often an OP uses its UNIT in a SLOT. */
        private int asksIn(Body body, int op, int slot) {
            int sum = 0;
            for (int r = 0; r < 4; r++) {
                if ((body.busyAt(op) & (1 << r)) != 0 && (slots[op] + r) % step == slot) {
                    sum++;
                }
            }
            return sum;
        }

        private int askedIn(Body body, int unit, int slot) {
            int sum = 0;
            for (int op = 0; op < size; op++) {
                if (body.unitAt(op) == unit) {
                    sum += asksIn(body, op, slot);
                }
            }
            return sum;
        }

        private int usersIn(Body body, int unit, int slot) {
            int bits = 0;
            for (int op = 0; op < size; op++) {
                if (body.unitAt(op) == unit && asksIn(body, op, slot) > 0) {
                    bits |= 1 << op;
                }
            }
            return bits;
        }

        private int turnBegun(int op, int cycle, int n) {
            if (cycle < times[op] || cycle % step != slots[op]) {
                return NONE;
            }
            int turn = (cycle - times[op]) / step;
            return turn < n ? turn : NONE;
        }

        private int cyclesOf(int n) {
            return n <= 0 ? 0 : step * (n - 1) + reachEnd;
        }

        private int headOf(int n) {
            int all = cyclesOf(n);
            return n < stageCount ? all : Math.min(all, step * (stageCount - 1));
        }

        private int ringOf(int n) {
            if (n < stageCount) {
                return 0;
            }
            return Math.min(step * (n - stageCount + 1), cyclesOf(n) - headOf(n));
        }

        private int peeledOf(int n) {
            if (n < stageCount || unroll <= 0) {
                return n;
            }
            return (n - stageCount + 1) % unroll;
        }

        private int cyclesWithoutBegin(int n) {
            int sum = 0;
            int all = cyclesOf(n);
            for (int cycle = 0; cycle < all; cycle++) {
                if (!hasBegin(cycle, n)) {
                    sum++;
                }
            }
            return sum;
        }

        private boolean hasBegin(int cycle, int n) {
            for (int op = 0; op < size; op++) {
                if (turnBegun(op, cycle, n) != NONE) {
                    return true;
                }
            }
            return false;
        }

        /** The TURN whose value a NAME holds behind what is put in a cycle; NONE ahead of all. */
        private int turnInName(int op, int k, int cycle, int n) {
            if (cycle < comings[op] || paired[op] <= 0) {
                return NONE;
            }
            int turn = Math.min(n - 1, (cycle - comings[op]) / step);
            turn -= Math.floorMod(turn - k, paired[op]);
            return turn < 0 ? NONE : turn;
        }
    }

    /** QUICK for one STEP at a time. */
    private static final class Hasty {
        private int step;
        private boolean found;
        private int made;
        private int timed;
        private final int[] times = new int[MOST_OPS];
        private final int[] last = new int[MOST_OPS];
        private final int[] asked = new int[LAST_STEP];
        private final int[] heights = new int[MOST_OPS];

        private void seek(Body body, Web web, Reach reach, int d) {
            if (step == d) {
                return;
            }
            step = d;
            found = false;
            made = 0;
            timed = 0;
            for (int op = 0; op < body.size; op++) {
                last[op] = -1;
                heights[op] = reach.above(op);
                tally(body, body.unitAt(op));
                if (!hasRoom(body, op, 0)) {
                    return;
                }
            }
            int all = (1 << body.size) - 1;
            while (made < 6 * body.size && timed != all) {
                move(body, web, highest(body.size));
                made++;
            }
            found = timed == all;
        }

        private int highest(int size) {
            int best = 0;
            int most = -1;
            for (int op = 0; op < size; op++) {
                if ((timed & (1 << op)) == 0 && heights[op] > most) {
                    most = heights[op];
                    best = op;
                }
            }
            return best;
        }

        private void move(Body body, Web web, int op) {
            int early = earlyOf(web, op);
            tally(body, body.unitAt(op));
            int time = early;
            while (time < early + step && !hasRoom(body, op, time)) {
                time++;
            }
            boolean crowded = time >= early + step;
            if (crowded) {
                time = Math.max(early, last[op] + 1);
            }
            times[op] = time;
            last[op] = time;
            timed |= 1 << op;
            if (crowded) {
                sendSharers(body, op);
            }
            sendBroken(web, op);
        }

        private int earlyOf(Web web, int op) {
            int early = 0;
            for (int i = 0; i < web.size; i++) {
                int from = web.from[i];
                if (web.to[i] == op && from != op && (timed & (1 << from)) != 0) {
                    early = Math.max(early, times[from] + web.delay[i] - step * web.distance[i]);
                }
            }
            return early;
        }

        /** Counts what OPS with a TIME ask of a UNIT, SLOT by SLOT. */
        private void tally(Body body, int unit) {
            Arrays.fill(asked, 0);
            for (int op = 0; op < body.size; op++) {
                if ((timed & (1 << op)) != 0 && body.unitAt(op) == unit) {
                    ask(body.busyAt(op), times[op], 1);
                }
            }
        }

        private void ask(int busy, int time, int by) {
            for (int r = 0; r < 4; r++) {
                if ((busy & (1 << r)) != 0) {
                    asked[(time + r) % step] += by;
                }
            }
        }

        /** Looks behind tally; an OP may meet itself in a SLOT, so all its uses are put in at once. */
        private boolean hasRoom(Body body, int op, int time) {
            int busy = body.busyAt(op);
            ask(busy, time, 1);
            boolean room = !isCrowded(busy, time, body.counts[body.unitAt(op)]);
            ask(busy, time, -1);
            return room;
        }

        private boolean isCrowded(int busy, int time, int most) {
            for (int r = 0; r < 4; r++) {
                if ((busy & (1 << r)) != 0 && asked[(time + r) % step] > most) {
                    return true;
                }
            }
            return false;
        }

        private void sendSharers(Body body, int op) {
            int unit = body.unitAt(op);
            tally(body, unit);
            for (int other = 0; other < body.size; other++) {
                boolean shares = other != op && body.unitAt(other) == unit;
                if (shares && (timed & (1 << other)) != 0 && meetsCrowded(body, op, other)) {
                    timed &= ~(1 << other);
                    ask(body.busyAt(other), times[other], -1);
                }
            }
        }

        private boolean meetsCrowded(Body body, int op, int other) {
            int most = body.counts[body.unitAt(op)];
            int both = slotsOf(body, op) & slotsOf(body, other);
            for (int slot = 0; slot < step; slot++) {
                if ((both & (1 << slot)) != 0 && asked[slot] > most) {
                    return true;
                }
            }
            return false;
        }

        private int slotsOf(Body body, int op) {
            int bits = 0;
            for (int r = 0; r < 4; r++) {
                if ((body.busyAt(op) & (1 << r)) != 0) {
                    bits |= 1 << ((times[op] + r) % step);
                }
            }
            return bits;
        }

        private void sendBroken(Web web, int op) {
            for (int i = 0; i < web.size; i++) {
                int from = web.from[i];
                int to = web.to[i];
                int ends = (1 << from) | (1 << to);
                boolean between = (from == op) != (to == op) && (timed & ends) == ends;
                if (between && times[to] < times[from] + web.delay[i] - step * web.distance[i]) {
                    timed &= ~ends;
                    timed |= 1 << op;
                }
            }
        }
    }

    /** The LOOP as it is told, TURN by TURN. */
    private static final class Play {
        private final int[][] rows = new int[2][PLACES];
        private final int[] came = new int[MOST_OPS * MOST_TURNS];

        private void turns(Body body, int n) {
            for (int k = 0; k < PLACES; k++) {
                rows[0][k] = 3 * k + 1;
                rows[1][k] = 7 * k - 5;
            }
            for (int turn = 0; turn < n; turn++) {
                for (int op = 0; op < body.size; op++) {
                    came[op * MOST_TURNS + turn] = act(body, op, turn);
                }
            }
        }

        private int act(Body body, int op, int turn) {
            int kind = body.kinds[op];
            if (kind == LOADING) {
                return rows[body.rowAt(op)][turn + body.placeAt(op)];
            }
            int a = look(body, op, 0, turn);
            if (kind == STORING) {
                rows[body.rowAt(op)][turn + body.placeAt(op)] = a;
                return a;
            }
            int b = look(body, op, 1, turn);
            switch (kind) {
                case 0:
                    return a + b;
                case 1:
                    return a - b;
                case 2:
                    return a * b;
                default:
                    return Math.min(a, b);
            }
        }

        private int look(Body body, int op, int which, int turn) {
            int source = body.sourceAt(op, which);
            int distance = body.distanceAt(op, which);
            if (source == TURN_SOURCE) {
                return turn;
            }
            if (source == NUMBER_SOURCE) {
                return distance;
            }
            return valueOf(body, source, turn - distance);
        }

        private int valueOf(Body body, int op, int turn) {
            return turn < 0 ? body.firsts[op] : came[op * MOST_TURNS + turn];
        }
    }

    /** FIRST FIT of a file that turns. */
    private static final class Wheel {
        private final int[] places = new int[MOST_OPS];

        /** Whether each OP with a LIFE has a place; behind one without, all are without. */
        private boolean settleAll(Chart chart, int r) {
            boolean going = true;
            for (int op = 0; op < chart.size; op++) {
                places[op] = NONE;
                if (going && chart.lives[op] > 0) {
                    places[op] = leastPlace(chart, op, r);
                    going = places[op] != NONE;
                }
            }
            return going;
        }

        private int leastPlace(Chart chart, int op, int r) {
            if (chart.lives[op] > chart.step * r) {
                return NONE;
            }
            long shut = 0;
            for (int other = 0; other < op; other++) {
                if (chart.lives[other] > 0) {
                    shut |= shutBy(chart, other, op, r);
                }
            }
            for (int place = 0; place < r; place++) {
                if ((shut & (1L << place)) == 0) {
                    return place;
                }
            }
            return NONE;
        }

        /** Places at which a TURN of op, so many behind one of other, would meet it. */
        private long shutBy(Chart chart, int other, int op, int r) {
            int apart = chart.comings[other] - chart.comings[op];
            int fewest = roundUp(apart - chart.lives[op] + 1, chart.step);
            int most = Math.floorDiv(apart + chart.lives[other] - 1, chart.step);
            long shut = 0;
            for (int turns = fewest; turns <= most && turns < fewest + r; turns++) {
                shut |= 1L << Math.floorMod(places[other] + turns, r);
            }
            return shut;
        }
    }

    /** FLAT that waits for LOADS that come late. */
    private static final class Patience {
        private static final int MOST_CYCLES = 1024;
        private final int[] waits = new int[MOST_CYCLES];
        private int places;
        private int longer;

        private int waited(Body body, Chart chart, int n, int m, int e) {
            places = m;
            longer = e;
            int all = Math.min(MOST_CYCLES, chart.cyclesOf(n));
            int wait = 0;
            for (int cycle = 0; cycle < all; cycle++) {
                for (int op = 0; op < chart.size; op++) {
                    int turn = chart.turnBegun(op, cycle, n);
                    if (turn != NONE) {
                        wait = Math.max(wait, lastComing(body, chart, op, turn) - cycle);
                    }
                }
                waits[cycle] = wait;
            }
            return wait;
        }

        private int lastComing(Body body, Chart chart, int op, int turn) {
            int last = 0;
            for (int which = 0; which < body.sourcesOf(op); which++) {
                int source = body.sourceAt(op, which);
                int earlier = turn - body.distanceAt(op, which);
                if (source >= 0 && earlier >= 0) {
                    last = Math.max(last, comingOf(body, chart, source, earlier));
                }
            }
            return last;
        }

        private int comingOf(Body body, Chart chart, int op, int turn) {
            int begin = chart.times[op] + chart.step * turn;
            if (begin < 0 || begin >= MOST_CYCLES) {
                return 0;
            }
            int coming = begin + waits[begin] + body.latencyAt(op);
            boolean loads = body.kinds[op] == LOADING;
            if (loads && places > 0 && (turn + body.placeAt(op)) % places == 0) {
                coming += longer;
            }
            return coming;
        }
    }
}
