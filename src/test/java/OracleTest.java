import java.lang.reflect.InvocationTargetException;
import java.lang.reflect.Method;
import java.util.ArrayList;
import java.util.Arrays;
import java.util.List;
import java.util.NoSuchElementException;
import java.util.Random;
import java.util.TreeSet;

/**
 * Asks the class and a slow, literal reading of the document the same things, over random loops
 * and with sound and wild numbers, and compares answers and exceptions.
 */
public class OracleTest {
    static int wrong;
    static long calls;

    public static void main(String[] args) throws Exception {
        Method[] methods = Slow.class.getDeclaredMethods();
        Arrays.sort(methods, (a, b) -> a.getName().compareTo(b.getName()));
        List<Method[]> pairs = new ArrayList<>();
        for (Method slow : methods) {
            if (java.lang.reflect.Modifier.isPublic(slow.getModifiers())) {
                Method fast = OverlapMill.class.getMethod(slow.getName(), slow.getParameterTypes());
                pairs.add(new Method[] {fast, slow});
            }
        }
        if (pairs.size() != 49) {
            System.out.println("methods: " + pairs.size());
            wrong++;
        }
        int loops = args.length > 1 ? Integer.parseInt(args[1]) : 600;
        long seed = args.length > 2 ? Long.parseLong(args[2]) : 20261117L;
        for (int i = 0; i < loops && wrong < 20; i++) {
            new Round(seed + i, pairs).go();
        }
        System.out.println(calls + " calls compared, " + wrong + " wrong");
        System.exit(wrong == 0 ? 0 : 1);
    }

    /** One pair of objects and its calls. */
    static final class Round {
        final long seed;
        final Random random;
        final List<Method[]> pairs;
        final OverlapMill fast = new OverlapMill();
        final Slow slow = new Slow();
        final StringBuilder told = new StringBuilder();
        final int most;

        Round(long seed, List<Method[]> pairs) {
            this.seed = seed;
            this.random = new Random(seed);
            this.pairs = pairs;
            this.most = 1 + random.nextInt(8);
        }

        void go() throws Exception {
            build();
            for (int i = 0; i < 250; i++) {
                if (random.nextInt(40) == 0) {
                    change();
                }
                Method[] pair = pairs.get(random.nextInt(pairs.size()));
                String name = pair[0].getName();
                boolean changes = " reckon load store drop kind unit ".contains(" " + name + " ");
                if (changes && random.nextInt(10) != 0) {
                    continue;
                }
                if (!compare(pair, argumentsOf(pair[0]))) {
                    return;
                }
            }
        }

        void build() throws Exception {
            int style = random.nextInt(8);
            for (int k = 0; k < 6; k++) {
                if (style >= 2) {
                    int unit = style >= 5 ? style - 5 : random.nextInt(3);
                    tell("kind", k, unit, 1 + random.nextInt(6), 1 + random.nextInt(15));
                }
            }
            for (int u = 0; u < 3; u++) {
                if (random.nextBoolean()) {
                    tell("unit", u, 1 + random.nextInt(3));
                }
            }
            boolean strict = random.nextInt(10) != 0;
            int rows = 1 + random.nextInt(2);
            for (int i = 0; i < most; i++) {
                addOp(i, strict, rows);
            }
            for (int i = 0; i < most; i++) {
                if (random.nextBoolean()) {
                    tell("first", i, random.nextInt(19999) - 9999);
                }
            }
        }

        void addOp(int i, boolean strict, int rows) throws Exception {
            int kind = random.nextInt(6);
            int[] s = new int[4];
            for (int k = 0; k < 2; k++) {
                s[2 * k] = random.nextInt(most + 2) - 2;
                s[2 * k + 1] = random.nextInt(4);
                if (s[2 * k] == -2) {
                    s[2 * k + 1] = random.nextInt(199) - 99;
                } else if (s[2 * k] >= i && strict) {
                    s[2 * k + 1] = Math.max(1, s[2 * k + 1]);
                } else if (s[2 * k] >= 0 && random.nextBoolean()) {
                    s[2 * k + 1] = 0;
                    if (strict && s[2 * k] >= i) {
                        s[2 * k] = -1;
                    }
                }
                if (strict && s[2 * k] >= 0 && s[2 * k] < i && slow.kinds.get(s[2 * k]) == 5) {
                    s[2 * k] = -1;
                }
            }
            // A later STORE would make a forward source unsound, so strict loops store last.
            if (kind == 5 && strict && i < most - 1 && random.nextInt(3) != 0) {
                kind = random.nextInt(5);
            }
            if (kind < 4) {
                tell("reckon", kind, s[0], s[1], s[2], s[3]);
            } else if (kind == 4) {
                tell("load", random.nextInt(rows), random.nextInt(8));
            } else {
                tell("store", s[0], s[1], random.nextInt(rows), random.nextInt(8));
            }
        }

        void change() throws Exception {
            switch (random.nextInt(4)) {
                case 0:
                    tell("kind", random.nextInt(6), random.nextInt(3), 1 + random.nextInt(6),
                            1 + random.nextInt(15));
                    break;
                case 1:
                    tell("unit", random.nextInt(3), 1 + random.nextInt(3));
                    break;
                case 2:
                    if (slow.kinds.size() > 0) {
                        tell("first", random.nextInt(slow.kinds.size()), random.nextInt(100));
                    }
                    break;
                default:
                    if (slow.kinds.size() > 0) {
                        tell("drop");
                        addOp(slow.kinds.size(), true, 2);
                    }
                    break;
            }
        }

        void tell(String name, int... numbers) throws Exception {
            for (Method[] pair : pairs) {
                if (pair[0].getName().equals(name)) {
                    Object[] all = new Object[numbers.length];
                    for (int i = 0; i < all.length; i++) {
                        all[i] = numbers[i];
                    }
                    compare(pair, all);
                }
            }
        }

        Object[] argumentsOf(Method method) {
            Class<?>[] types = method.getParameterTypes();
            Object[] all = new Object[types.length];
            String[] roles = rolesOf(method.getName());
            for (int i = 0; i < all.length; i++) {
                all[i] = types[i] == boolean.class ? (Object) random.nextBoolean() : numberFor(roles[i]);
            }
            return all;
        }

        int numberFor(String role) {
            int wild = random.nextInt(60);
            if (wild == 0) {
                return random.nextInt();
            }
            if (wild == 1) {
                return new int[] {Integer.MIN_VALUE, Integer.MAX_VALUE, -1, -2}[random.nextInt(4)];
            }
            int edge = wild < 6 ? 1 : 0;
            switch (role) {
                case "op":
                    return random.nextInt(Math.max(1, slow.kinds.size()) + edge) - edge * random.nextInt(2);
                case "d":
                    if (random.nextBoolean() && slow.isSound()) {
                        return Math.min(12, Math.max(1, fast.least()) + random.nextInt(4));
                    }
                    return 1 - edge + random.nextInt(12 + 2 * edge);
                case "n":
                    return random.nextInt(3) == 0 ? random.nextInt(4) : random.nextInt(41 + edge);
                case "slot":
                    return random.nextInt(random.nextBoolean() ? 4 : 12);
                case "need":
                    return random.nextInt(12) - edge;
                case "cycle":
                    return random.nextInt(random.nextInt(4) > 0 ? 30 : 500);
                case "place":
                    return random.nextInt(48 + 17 * edge);
                default:
                    int most = Integer.parseInt(role);
                    return random.nextInt(most + 1 + edge) - edge * random.nextInt(2);
            }
        }

        static String[] rolesOf(String name) {
            switch (name) {
                case "reckon": return new String[] {"3", "op", "3", "op", "3"};
                case "load": return new String[] {"1", "7"};
                case "store": return new String[] {"op", "3", "1", "7"};
                case "first": return new String[] {"op", "9999"};
                case "kind": return new String[] {"5", "2", "6", "15"};
                case "unit": return new String[] {"2", "3"};
                case "op": return new String[] {"op", "5"};
                case "need": return new String[] {"need", "3"};
                case "far": return new String[] {"op", "op", "d"};
                case "height": case "time": case "quick": return new String[] {"op", "d"};
                case "uses": case "more": return new String[] {"2"};
                case "fits": case "moves": case "turning": case "pays": return new String[] {"d"};
                case "ring": case "who": return new String[] {"2", "slot", "d"};
                case "plan": return new String[] {"d", "6"};
                case "life": return new String[] {"op", "d", "5"};
                case "alive": return new String[] {"slot", "d"};
                case "flat": return new String[] {"op", "cycle", "d", "n"};
                case "cycles": return new String[] {"d", "n", "3"};
                case "run": return new String[] {"1", "place", "d", "n"};
                case "comes": return new String[] {"op", "d", "n"};
                case "plain": return new String[] {"1", "place", "n"};
                case "gate": return new String[] {"op", "n", "d", "n"};
                case "code": return new String[] {"d", ""};
                case "peel": return new String[] {"d", "n", ""};
                case "rotary": return new String[] {"op", "d", "40"};
                case "name": return new String[] {"op", "3", "cycle", "d", "n"};
                case "rate": return new String[] {""};
                case "fold": return new String[] {"4"};
                case "faster": return new String[] {"5"};
                case "without": return new String[] {"need"};
                case "idle": return new String[] {"2", "d"};
                case "bare": return new String[] {"op", "d", ""};
                case "holes": return new String[] {"d", "n"};
                case "late": return new String[] {"d", "n", "9", "9"};
                case "squeeze": return new String[] {"40"};
                case "count": return new String[] {"9"};
                default: return new String[0];
            }
        }

        boolean compare(Method[] pair, Object[] all) throws Exception {
            String due = ask(pair[1], slow, all);
            if (due.equals("Skip")) {
                return true;
            }
            String got = ask(pair[0], fast, all);
            calls++;
            told.append(pair[0].getName()).append(Arrays.toString(all)).append(" = ").append(got).append('\n');
            if (got.equals(due)) {
                return true;
            }
            wrong++;
            System.out.println("seed " + seed + ":\n" + told + "due: " + due + "\n");
            return false;
        }

        static String ask(Method method, Object on, Object[] all) throws Exception {
            try {
                return String.valueOf(method.invoke(on, all));
            } catch (InvocationTargetException e) {
                return e.getCause().getClass().getSimpleName();
            }
        }
    }

    /** Thrown where the slow way would take too long. */
    static final class Skip extends RuntimeException {
        private static final long serialVersionUID = 1L;
    }

    /** The document, read word by word and without any care for speed. */
    static final class Slow {
        final List<Integer> kinds = new ArrayList<>();
        final List<int[]> parts = new ArrayList<>();
        final List<Integer> firsts = new ArrayList<>();
        final int[] unitOf = {0, 0, 1, 0, 2, 2};
        final int[] latencyOf = {1, 1, 3, 1, 2, 1};
        final int[] busyOf = {1, 1, 3, 1, 1, 1};
        final int[] counts = {1, 1, 1};
        final int[][] plans = new int[13][];
        final boolean[] tried = new boolean[13];

        static void index(boolean fine) {
            if (!fine) {
                throw new IndexOutOfBoundsException();
            }
        }

        static void argument(boolean fine) {
            if (!fine) {
                throw new IllegalArgumentException();
            }
        }

        static void state(boolean fine) {
            if (!fine) {
                throw new IllegalStateException();
            }
        }

        static void element(boolean fine) {
            if (!fine) {
                throw new NoSuchElementException();
            }
        }

        static boolean in(int x, int low, int high) {
            return x >= low && x <= high;
        }

        int size() {
            return kinds.size();
        }

        boolean isOp(int op) {
            return in(op, 0, size() - 1);
        }

        int latency(int op) {
            return latencyOf[kinds.get(op)];
        }

        static boolean source(int a, int da) {
            return a == -1 || (a == -2 && in(da, -99, 99)) || (in(a, 0, 7) && in(da, 0, 3));
        }

        int append(int kind, int... what) {
            state(size() < 8);
            kinds.add(kind);
            parts.add(what);
            firsts.add(0);
            Arrays.fill(tried, false);
            return size() - 1;
        }

        public int reckon(int kind, int a, int da, int b, int db) {
            argument(in(kind, 0, 3) && source(a, da) && source(b, db));
            return append(kind, a, da, b, db);
        }

        public int load(int row, int place) {
            argument(in(row, 0, 1) && in(place, 0, 7));
            return append(4, row, place, 0, 0);
        }

        public int store(int a, int da, int row, int place) {
            argument(source(a, da) && in(row, 0, 1) && in(place, 0, 7));
            return append(5, a, da, row, place);
        }

        public int drop() {
            state(size() > 0);
            kinds.remove(size() - 1);
            parts.remove(size());
            firsts.remove(size());
            Arrays.fill(tried, false);
            return size();
        }

        public int first(int op, int v) {
            index(isOp(op));
            argument(in(v, -9999, 9999));
            return firsts.set(op, v);
        }

        public void kind(int kind, int unit, int latency, int busy) {
            index(in(kind, 0, 5));
            argument(in(unit, 0, 2) && in(latency, 1, 6) && in(busy, 1, 15));
            unitOf[kind] = unit;
            latencyOf[kind] = latency;
            busyOf[kind] = busy;
            Arrays.fill(tried, false);
        }

        public int unit(int unit, int count) {
            index(in(unit, 0, 2));
            argument(in(count, 1, 3));
            int was = counts[unit];
            counts[unit] = count;
            Arrays.fill(tried, false);
            return was;
        }

        public int op(int op, int what) {
            index(isOp(op));
            element(in(what, 0, 5));
            return what == 0 ? kinds.get(op) : what == 5 ? firsts.get(op) : parts.get(op)[what - 1];
        }

        /** Pairs of an OP and a DISTANCE. */
        List<int[]> sourcesOf(int op) {
            List<int[]> all = new ArrayList<>();
            int[] p = parts.get(op);
            if (kinds.get(op) != 4 && p[0] >= 0) {
                all.add(new int[] {p[0], p[1]});
            }
            if (kinds.get(op) < 4 && p[2] >= 0) {
                all.add(new int[] {p[2], p[3]});
            }
            return all;
        }

        public boolean isSound() {
            for (int op = 0; op < size(); op++) {
                for (int[] s : sourcesOf(op)) {
                    if (s[0] >= size() || kinds.get(s[0]) == 5 || (s[1] == 0 && s[0] >= op)) {
                        return false;
                    }
                }
            }
            return true;
        }

        int rowOf(int op) {
            return kinds.get(op) == 4 ? parts.get(op)[0] : parts.get(op)[2];
        }

        int placeOf(int op) {
            return kinds.get(op) == 4 ? parts.get(op)[1] : parts.get(op)[3];
        }

        List<int[]> needs() {
            TreeSet<int[]> all = new TreeSet<>((x, y) -> Arrays.compare(x, y));
            for (int op = 0; op < size(); op++) {
                for (int[] s : sourcesOf(op)) {
                    all.add(new int[] {s[0], op, s[1], latency(s[0])});
                }
            }
            for (int i = 0; i < size(); i++) {
                for (int j = 0; j < size(); j++) {
                    if (kinds.get(i) == 5 && kinds.get(j) >= 4 && i != j && rowOf(i) == rowOf(j)) {
                        int p = placeOf(i);
                        int q = placeOf(j);
                        boolean ahead = p > q || (p == q && i < j);
                        if (kinds.get(j) == 4) {
                            all.add(ahead ? new int[] {i, j, p - q, latency(i)}
                                    : new int[] {j, i, q - p, 1 - latency(i)});
                        } else if (ahead) {
                            all.add(new int[] {i, j, p - q, 1});
                        }
                    }
                }
            }
            return new ArrayList<>(all);
        }

        public int need(int need, int what) {
            state(isSound());
            index(in(need, 0, needs().size() - 1));
            element(in(what, 0, 3));
            return needs().get(need)[what];
        }

        /** Longest ways of up to 20 NEEDS; -1000000 without. */
        int[][] ways(List<int[]> needs, int d) {
            int n = size();
            int[][] best = new int[n][n];
            for (int from = 0; from < n; from++) {
                Arrays.fill(best[from], -1000000);
                int[] now = new int[n];
                Arrays.fill(now, -1000000);
                now[from] = 0;
                for (int length = 1; length <= 20; length++) {
                    int[] next = new int[n];
                    Arrays.fill(next, -1000000);
                    for (int[] need : needs) {
                        if (now[need[0]] > -1000000) {
                            int far = now[need[0]] + need[3] - d * need[2];
                            next[need[1]] = Math.max(next[need[1]], far);
                        }
                    }
                    for (int to = 0; to < n; to++) {
                        best[from][to] = Math.max(best[from][to], next[to]);
                    }
                    now = next;
                }
            }
            return best;
        }

        int rounds(List<int[]> needs) {
            for (int d = 0; d < 200; d++) {
                int[][] ways = ways(needs, d);
                boolean fine = true;
                for (int op = 0; op < size(); op++) {
                    fine &= ways[op][op] <= 0;
                }
                if (fine) {
                    return d;
                }
            }
            throw new AssertionError();
        }

        void aboveRounds(int d) {
            argument(in(d, 1, 12));
            state(isSound());
            state(d >= rounds(needs()));
        }

        public int far(int from, int to, int d) {
            index(isOp(from) && isOp(to));
            aboveRounds(d);
            int far = ways(needs(), d)[from][to];
            return far == -1000000 ? -1000 : far;
        }

        public int height(int op, int d) {
            index(isOp(op));
            aboveRounds(d);
            int most = 0;
            for (int far : ways(needs(), d)[op]) {
                most = Math.max(most, far);
            }
            return most;
        }

        public int uses(int unit) {
            index(in(unit, 0, 2));
            int sum = 0;
            for (int kind : kinds) {
                for (int r = 0; r < 4; r++) {
                    sum += unitOf[kind] == unit && (busyOf[kind] >> r & 1) == 1 ? 1 : 0;
                }
            }
            return sum;
        }

        /** Uses of UNITS by SLOTS of the first OPS; null, if one is asked too much. */
        int[][] table(int[] times, int upTo, int d) {
            int[][] table = new int[3][d];
            for (int op = 0; op < upTo; op++) {
                for (int r = 0; r < 4; r++) {
                    if ((busyOf[kinds.get(op)] >> r & 1) == 1) {
                        table[unitOf[kinds.get(op)]][(times[op] + r) % d]++;
                    }
                }
            }
            for (int unit = 0; unit < 3; unit++) {
                for (int asked : table[unit]) {
                    if (asked > counts[unit]) {
                        return null;
                    }
                }
            }
            return table;
        }

        /** The least TIMES with these SLOTS, going up SLOT by SLOT's ring; null, if there are none. */
        int[] timesFor(int[] slots, int d, List<int[]> needs) {
            int[] times = slots.clone();
            for (int pass = 0; pass < 60; pass++) {
                boolean fine = true;
                for (int[] need : needs) {
                    while (times[need[1]] < times[need[0]] + need[3] - d * need[2]) {
                        times[need[1]] += d;
                        fine = false;
                    }
                }
                if (fine) {
                    return times;
                }
            }
            return null;
        }

        long tries;

        int[] search(int[] slots, int op, int d, List<int[]> needs) {
            if (++tries > 30000) {
                throw new Skip();
            }
            if (op == size()) {
                return timesFor(slots, d, needs);
            }
            for (int slot = 0; slot < d; slot++) {
                slots[op] = slot;
                if (table(slots, op + 1, d) != null) {
                    int[] times = search(slots, op + 1, d, needs);
                    if (times != null) {
                        return times;
                    }
                }
            }
            return null;
        }

        /** TIMES of the FIRST PLAN; null, if d does not FIT. */
        int[] planOf(int d) {
            if (!tried[d]) {
                tries = 0;
                plans[d] = rounds(needs()) > d ? null : search(new int[size()], 0, d, needs());
                tried[d] = true;
            }
            return plans[d];
        }

        int[] fitting(int d) {
            argument(in(d, 1, 12));
            state(isSound());
            int[] times = planOf(d);
            state(times != null);
            return times;
        }

        public boolean fits(int d) {
            argument(in(d, 1, 12));
            state(isSound());
            return planOf(d) != null;
        }

        public int least() {
            state(isSound());
            for (int d = 1; d <= 12; d++) {
                if (planOf(d) != null) {
                    return d;
                }
            }
            return -1;
        }

        public int time(int op, int d) {
            index(isOp(op));
            return fitting(d)[op];
        }

        public int ring(int unit, int slot, int d) {
            index(in(unit, 0, 2));
            argument(in(d, 1, 12) && in(slot, 0, d - 1));
            return table(fitting(d), size(), d)[unit][slot];
        }

        /** TIMES by QUICK, and behind them how many moves; null, if there is none. */
        int[] quickly(int d) {
            int n = size();
            int[] times = new int[n + 1];
            int[] last = new int[n];
            boolean[] has = new boolean[n];
            Arrays.fill(last, -1);
            int[] heights = new int[n];
            for (int op = 0; op < n; op++) {
                heights[op] = height(op, d);
                Arrays.fill(has, false);
                has[op] = true;
                if (crowded(times, has, op, d, -1)) {
                    return null;
                }
            }
            Arrays.fill(has, false);
            for (int move = 0; move <= 6 * n; move++) {
                int op = -1;
                for (int i = 0; i < n; i++) {
                    if (!has[i] && (op < 0 || heights[i] > heights[op])) {
                        op = i;
                    }
                }
                if (op < 0) {
                    times[n] = move;
                    return times;
                }
                if (move == 6 * n) {
                    return null;
                }
                int early = 0;
                for (int[] need : needs()) {
                    if (need[1] == op && need[0] != op && has[need[0]]) {
                        early = Math.max(early, times[need[0]] + need[3] - d * need[2]);
                    }
                }
                has[op] = true;
                int to = -1;
                for (int t = early; t < early + d && to < 0; t++) {
                    times[op] = t;
                    to = crowded(times, has, op, d, -1) ? -1 : t;
                }
                if (to < 0) {
                    to = Math.max(early, last[op] + 1);
                    times[op] = to;
                    for (int i = 0; i < n; i++) {
                        if (i != op && has[i] && unitOf[kinds.get(i)] == unitOf[kinds.get(op)]
                                && crowded(times, has, op, d, i)) {
                            has[i] = false;
                        }
                    }
                }
                last[op] = to;
                for (int[] need : needs()) {
                    if (has[need[0]] && has[need[1]]
                            && times[need[1]] < times[need[0]] + need[3] - d * need[2]) {
                        has[need[0] == op ? need[1] : need[0]] = false;
                    }
                }
            }
            return null;
        }

        /** Whether a SLOT that op uses (and with, unless that is -1) is asked too much. */
        boolean crowded(int[] times, boolean[] has, int op, int d, int with) {
            int unit = unitOf[kinds.get(op)];
            for (int slot = 0; slot < d; slot++) {
                int asked = 0;
                for (int i = 0; i < size(); i++) {
                    if (has[i] && unitOf[kinds.get(i)] == unit) {
                        asked += askedBy(i, times[i], slot, d);
                    }
                }
                if (asked > counts[unit] && askedBy(op, times[op], slot, d) > 0
                        && (with < 0 || askedBy(with, times[with], slot, d) > 0)) {
                    return true;
                }
            }
            return false;
        }

        int askedBy(int op, int time, int slot, int d) {
            int sum = 0;
            for (int r = 0; r < 4; r++) {
                sum += (busyOf[kinds.get(op)] >> r & 1) == 1 && (time + r) % d == slot ? 1 : 0;
            }
            return sum;
        }

        public int quick(int op, int d) {
            index(isOp(op));
            aboveRounds(d);
            int[] times = quickly(d);
            return times == null ? -1 : times[op];
        }

        public int moves(int d) {
            aboveRounds(d);
            int[] times = quickly(d);
            return times == null ? -1 : times[size()];
        }

        public int quickest() {
            state(isSound());
            for (int d = 1; d <= 12; d++) {
                if (d >= rounds(needs()) && quickly(d) != null) {
                    return d;
                }
            }
            return -1;
        }

        int span(int[] times) {
            int most = 0;
            for (int op = 0; op < size(); op++) {
                most = Math.max(most, times[op] + latency(op));
            }
            return most;
        }

        int stages(int[] times, int d) {
            int most = 0;
            for (int time : times) {
                most = Math.max(most, time / d);
            }
            return most + 1;
        }

        /** The cycles of the LIFE of TURN 0 of an OP. */
        List<Integer> lifeOf(int op, int[] times, int d) {
            int last = -1;
            for (int user = 0; user < size(); user++) {
                for (int[] s : sourcesOf(user)) {
                    if (s[0] == op) {
                        last = Math.max(last, times[user] + d * s[1]);
                    }
                }
            }
            List<Integer> all = new ArrayList<>();
            for (int cycle = times[op] + latency(op); cycle <= last; cycle++) {
                all.add(cycle);
            }
            return all;
        }

        int copies(int op, int[] times, int d) {
            if (kinds.get(op) == 5) {
                return 0;
            }
            int life = lifeOf(op, times, d).size();
            int copies = 1;
            while (copies * d < life) {
                copies++;
            }
            return copies;
        }

        int unroll(int[] times, int d) {
            int most = 1;
            for (int op = 0; op < size(); op++) {
                most = Math.max(most, copies(op, times, d));
            }
            return most;
        }

        int paired(int op, int[] times, int d) {
            if (kinds.get(op) == 5) {
                return 0;
            }
            for (int p = 1;; p++) {
                if (unroll(times, d) % p == 0 && p >= copies(op, times, d)) {
                    return p;
                }
            }
        }

        int aliveAt(int slot, int[] times, int d) {
            int sum = 0;
            for (int op = 0; op < size(); op++) {
                for (int cycle : lifeOf(op, times, d)) {
                    sum += cycle % d == slot ? 1 : 0;
                }
            }
            return sum;
        }

        public int plan(int d, int what) {
            element(in(what, 0, 6));
            int[] times = fitting(d);
            int names = 0;
            int pairs = 0;
            for (int op = 0; op < size(); op++) {
                names += copies(op, times, d);
                pairs += paired(op, times, d);
            }
            int most = -1;
            int at = -1;
            for (int slot = 0; slot < d; slot++) {
                if (aliveAt(slot, times, d) > most) {
                    most = aliveAt(slot, times, d);
                    at = slot;
                }
            }
            return new int[] {span(times), stages(times, d), names, unroll(times, d), pairs, most, at}[what];
        }

        public int life(int op, int d, int what) {
            index(isOp(op));
            element(in(what, 0, 5));
            int[] times = fitting(d);
            int loose = 0;
            while (loose < 99 && staysSo(op, times, loose + 1, d)) {
                loose++;
            }
            return new int[] {times[op] / d, times[op] % d, lifeOf(op, times, d).size(),
                copies(op, times, d), paired(op, times, d), loose}[what];
        }

        boolean staysSo(int op, int[] times, int later, int d) {
            for (int[] need : needs()) {
                if (need[0] == op && need[1] != op
                        && times[need[1]] < times[op] + later + need[3] - d * need[2]) {
                    return false;
                }
            }
            return true;
        }

        public int alive(int slot, int d) {
            argument(in(d, 1, 12) && in(slot, 0, d - 1));
            return aliveAt(slot, fitting(d), d);
        }

        public int flat(int op, int cycle, int d, int n) {
            index(isOp(op));
            argument(in(d, 1, 12) && in(n, 0, 40) && cycle >= 0);
            int[] times = fitting(d);
            for (int i = 0; i < n; i++) {
                if (times[op] + d * i == cycle) {
                    return i;
                }
            }
            return -1;
        }

        int cyclesFor(int[] times, int d, int n) {
            return n == 0 ? 0 : d * (n - 1) + span(times);
        }

        public int cycles(int d, int n, int what) {
            element(in(what, 0, 3));
            argument(in(d, 1, 12) && in(n, 0, 40));
            int[] times = fitting(d);
            int stages = stages(times, d);
            int[] sums = new int[4];
            sums[0] = cyclesFor(times, d, n);
            for (int cycle = 0; cycle < sums[0]; cycle++) {
                boolean head = n < stages || cycle < d * (stages - 1);
                boolean ring = cycle < d * (stages - 1) + d * (n - stages + 1);
                sums[head ? 1 : ring ? 2 : 3]++;
            }
            return sums[what];
        }

        static int[][] newRows() {
            int[][] rows = new int[2][64];
            for (int k = 0; k < 64; k++) {
                rows[0][k] = 3 * k + 1;
                rows[1][k] = 7 * k - 5;
            }
            return rows;
        }

        static int reckoned(int kind, int a, int b) {
            return kind == 0 ? a + b : kind == 1 ? a - b : kind == 2 ? a * b : Math.min(a, b);
        }

        /** RUN, cycle by cycle, up to what is put in the last cycle that is asked for. */
        final class Running {
            final int[] times;
            final int[][] rows = newRows();
            final int[][] names = new int[size()][];
            final int[][] results;
            final int d;

            Running(int d, int n, int upTo) {
                this.d = d;
                times = planOf(d);
                results = new int[size()][n];
                for (int op = 0; op < size(); op++) {
                    names[op] = new int[Math.max(1, paired(op, times, d))];
                    Arrays.fill(names[op], firsts.get(op));
                }
                for (int cycle = 0; cycle <= upTo; cycle++) {
                    for (int op = 0; op < size(); op++) {
                        int turn = begun(op, cycle - latency(op), n);
                        if (turn >= 0 && kinds.get(op) == 5) {
                            rows[rowOf(op)][turn + placeOf(op)] = results[op][turn];
                        } else if (turn >= 0) {
                            names[op][turn % names[op].length] = results[op][turn];
                        }
                    }
                    for (int op = 0; op < size(); op++) {
                        int turn = begun(op, cycle, n);
                        if (turn >= 0) {
                            results[op][turn] = result(op, turn);
                        }
                    }
                }
            }

            int begun(int op, int cycle, int n) {
                int behind = cycle - times[op];
                return behind >= 0 && behind % d == 0 && behind / d < n ? behind / d : -1;
            }

            int result(int op, int turn) {
                int kind = kinds.get(op);
                int[] p = parts.get(op);
                if (kind == 4) {
                    return rows[p[0]][turn + p[1]];
                }
                int a = seen(p[0], p[1], turn);
                return kind == 5 ? a : reckoned(kind, a, seen(p[2], p[3], turn));
            }

            int seen(int source, int distance, int turn) {
                if (source < 0) {
                    return source == -1 ? turn : distance;
                }
                return names[source][Math.floorMod(turn - distance, names[source].length)];
            }
        }

        public int run(int row, int place, int d, int n) {
            argument(in(row, 0, 1) && in(place, 0, 63) && in(d, 1, 12) && in(n, 0, 40));
            int[] times = fitting(d);
            return new Running(d, n, cyclesFor(times, d, n)).rows[row][place];
        }

        public int comes(int op, int d, int n) {
            index(isOp(op));
            argument(kinds.get(op) != 5 && in(d, 1, 12) && in(n, 0, 40));
            int[] times = fitting(d);
            return n == 0 ? firsts.get(op) : new Running(d, n, cyclesFor(times, d, n)).results[op][n - 1];
        }

        public int plain(int row, int place, int n) {
            argument(in(row, 0, 1) && in(place, 0, 63) && in(n, 0, 40));
            state(isSound());
            int[][] rows = newRows();
            int[][] came = new int[size()][n];
            for (int turn = 0; turn < n; turn++) {
                for (int op = 0; op < size(); op++) {
                    int kind = kinds.get(op);
                    int[] p = parts.get(op);
                    if (kind == 4) {
                        came[op][turn] = rows[p[0]][turn + p[1]];
                    } else if (kind == 5) {
                        rows[p[2]][turn + p[3]] = plainly(p[0], p[1], turn, came);
                    } else {
                        came[op][turn] = reckoned(kind, plainly(p[0], p[1], turn, came),
                                plainly(p[2], p[3], turn, came));
                    }
                }
            }
            return rows[row][place];
        }

        int plainly(int source, int distance, int turn, int[][] came) {
            if (source < 0) {
                return source == -1 ? turn : distance;
            }
            return turn < distance ? firsts.get(source) : came[source][turn - distance];
        }

        public boolean gate(int op, int r, int d, int n) {
            index(isOp(op));
            argument(in(d, 1, 12) && in(n, 0, 40) && r >= 0 && n > 0);
            int[] times = fitting(d);
            argument(r < n + stages(times, d) - 1);
            return in(r - times[op] / d, 0, n - 1);
        }

        public int code(int d, boolean gated) {
            int[] times = fitting(d);
            int words = unroll(times, d) * size();
            for (int time : times) {
                words += stages(times, d) - 1 - time / d;
                words += time / d;
            }
            return gated ? size() : words;
        }

        int together() {
            int sum = 0;
            for (int op = 0; op < size(); op++) {
                sum += latency(op);
            }
            return sum;
        }

        public int peel(int d, int n, boolean cycles) {
            argument(in(d, 1, 12) && in(n, 0, 40));
            int[] times = fitting(d);
            int stages = stages(times, d);
            int peel = n < stages ? n : (n - stages + 1) % unroll(times, d);
            return cycles ? peel * together() + cyclesFor(times, d, n - peel) : peel;
        }

        /** Places by FIRST FIT, -1 without; over all TURNS near TURN 0. */
        int[] turned(int[] times, int d, int r) {
            int[] places = new int[size()];
            Arrays.fill(places, -1);
            for (int op = 0; op < size(); op++) {
                if (lifeOf(op, times, d).isEmpty()) {
                    continue;
                }
                for (int x = 0; x < r && places[op] < 0; x++) {
                    places[op] = x;
                    for (int other = 0; other <= op; other++) {
                        if (places[other] >= 0 && places[op] >= 0 && clash(op, other, places, times, d, r)) {
                            places[op] = -1;
                        }
                    }
                }
                if (places[op] < 0) {
                    return places;
                }
            }
            return places;
        }

        boolean clash(int op, int other, int[] places, int[] times, int d, int r) {
            List<Integer> one = lifeOf(op, times, d);
            List<Integer> two = lifeOf(other, times, d);
            for (int turn = -200; turn <= 200; turn++) {
                boolean same = op == other && turn == 0;
                int from = two.get(0) + d * turn;
                int to = two.get(two.size() - 1) + d * turn;
                boolean meet = from <= one.get(one.size() - 1) && to >= one.get(0);
                if (!same && meet && Math.floorMod(places[op] - (places[other] - turn), r) == 0) {
                    return true;
                }
            }
            return false;
        }

        public int turning(int d) {
            int[] times = fitting(d);
            for (int r = 1; r <= 40; r++) {
                int[] places = turned(times, d, r);
                boolean all = true;
                for (int op = 0; op < size(); op++) {
                    all &= places[op] >= 0 || lifeOf(op, times, d).isEmpty();
                }
                if (all) {
                    return r;
                }
            }
            return -1;
        }

        public int rotary(int op, int d, int r) {
            index(isOp(op));
            argument(in(d, 1, 12) && in(r, 1, 40));
            return turned(fitting(d), d, r)[op];
        }

        public int name(int op, int k, int cycle, int d, int n) {
            index(isOp(op));
            argument(kinds.get(op) != 5 && in(d, 1, 12) && in(n, 0, 40) && k >= 0 && cycle >= 0
                    && (n > 0 || cycle == 0));
            int[] times = fitting(d);
            argument(k < paired(op, times, d) && cycle <= cyclesFor(times, d, n));
            return new Running(d, n, cycle).names[op][k];
        }

        /** Upper, lower and bits of the OPS of the ring that tells RATE. */
        int[] greatest() {
            int[] best = {0, 1, 0};
            for (int op = 0; op < size(); op++) {
                rings(op, op, 0, 0, 0, best);
            }
            for (int by = 1000; by > 1; by--) {
                if (best[0] % by == 0 && best[1] % by == 0) {
                    best[0] /= by;
                    best[1] /= by;
                }
            }
            return best;
        }

        void rings(int start, int at, int been, int delays, int distances, int[] best) {
            for (int[] need : needs()) {
                if (need[0] != at || (been >> need[1] & 1) == 1) {
                    continue;
                }
                int bits = been | 1 << need[1];
                int up = delays + need[3];
                int low = distances + need[2];
                if (need[1] == start) {
                    if (up > 0 && up * best[1] > best[0] * low) {
                        best[0] = up;
                        best[1] = low;
                        best[2] = bits;
                    } else if (up > 0 && up * best[1] == best[0] * low) {
                        best[2] = Math.min(best[2], bits);
                    }
                } else {
                    rings(start, need[1], bits, up, low, best);
                }
            }
        }

        public int rate(boolean lower) {
            state(isSound());
            return greatest()[lower ? 1 : 0];
        }

        public int critical() {
            state(isSound());
            return greatest()[2];
        }

        static int up(int a, int b) {
            return (a + b - 1) / b;
        }

        int byUnits(int k) {
            int most = 0;
            for (int unit = 0; unit < 3; unit++) {
                most = Math.max(most, up(k * uses(unit), counts[unit]));
            }
            return most;
        }

        int bound() {
            return Math.max(1, Math.max(rounds(needs()), byUnits(1)));
        }

        public int fold(int k) {
            argument(in(k, 1, 4));
            state(isSound());
            int[] rate = greatest();
            return Math.max(1, Math.max(up(k * rate[0], rate[1]), byUnits(k)));
        }

        public int bestFold() {
            state(isSound());
            int best = 1;
            for (int k = 2; k <= 4; k++) {
                if (12 * fold(k) / k < 12 * fold(best) / best) {
                    best = k;
                }
            }
            return best;
        }

        public int faster(int kind) {
            index(in(kind, 0, 5));
            state(isSound() && latencyOf[kind] > 1);
            latencyOf[kind]--;
            int bound = bound();
            latencyOf[kind]++;
            return bound;
        }

        public int without(int need) {
            state(isSound());
            index(in(need, 0, needs().size() - 1));
            List<int[]> left = needs();
            left.remove(need);
            return rounds(left);
        }

        public int idle(int unit, int d) {
            index(in(unit, 0, 2));
            int[][] table = table(fitting(d), size(), d);
            int sum = 0;
            for (int asked : table[unit]) {
                sum += counts[unit] - asked;
            }
            return sum;
        }

        public int bare(int op, int d, boolean latest) {
            index(isOp(op));
            aboveRounds(d);
            int[] soon = new int[size()];
            for (int pass = 0; pass < 60; pass++) {
                for (int[] need : needs()) {
                    soon[need[1]] = Math.max(soon[need[1]], soon[need[0]] + need[3] - d * need[2]);
                }
            }
            int end = span(soon);
            int[] late = new int[size()];
            for (int i = 0; i < size(); i++) {
                late[i] = end - latency(i);
            }
            for (int pass = 0; pass < 60; pass++) {
                for (int[] need : needs()) {
                    late[need[0]] = Math.min(late[need[0]], late[need[1]] - need[3] + d * need[2]);
                }
            }
            return latest ? late[op] : soon[op];
        }

        public int who(int unit, int slot, int d) {
            index(in(unit, 0, 2));
            argument(in(d, 1, 12) && in(slot, 0, d - 1));
            int[] times = fitting(d);
            int bits = 0;
            for (int op = 0; op < size(); op++) {
                if (unitOf[kinds.get(op)] == unit && askedBy(op, times[op], slot, d) > 0) {
                    bits |= 1 << op;
                }
            }
            return bits;
        }

        public int holes(int d, int n) {
            argument(in(d, 1, 12) && in(n, 0, 40));
            int[] times = fitting(d);
            boolean[] begun = new boolean[cyclesFor(times, d, n)];
            for (int op = 0; op < size(); op++) {
                for (int i = 0; i < n; i++) {
                    begun[times[op] + d * i] = true;
                }
            }
            int sum = 0;
            for (boolean one : begun) {
                sum += one ? 0 : 1;
            }
            return sum;
        }

        /** A clock that goes on while the cycle waits. */
        public int late(int d, int n, int m, int e) {
            argument(in(d, 1, 12) && in(n, 0, 40) && in(m, 1, 9) && in(e, 1, 9));
            int[] times = fitting(d);
            int[][] there = new int[size()][n];
            int clock = 0;
            int waits = 0;
            for (int cycle = 0; cycle < cyclesFor(times, d, n); cycle++) {
                while (!allThere(cycle, clock, times, there, d, n)) {
                    clock++;
                    waits++;
                }
                for (int op = 0; op < size(); op++) {
                    for (int i = 0; i < n; i++) {
                        if (times[op] + d * i == cycle) {
                            boolean slow = kinds.get(op) == 4 && (i + placeOf(op)) % m == 0;
                            there[op][i] = clock + latency(op) + (slow ? e : 0);
                        }
                    }
                }
                clock++;
            }
            return waits;
        }

        boolean allThere(int cycle, int clock, int[] times, int[][] there, int d, int n) {
            for (int op = 0; op < size(); op++) {
                for (int i = 0; i < n; i++) {
                    if (times[op] + d * i == cycle) {
                        for (int[] s : sourcesOf(op)) {
                            if (i >= s[1] && there[s[0]][i - s[1]] > clock) {
                                return false;
                            }
                        }
                    }
                }
            }
            return true;
        }

        public int pays(int d) {
            int[] times = fitting(d);
            for (int n = 1; n <= 40; n++) {
                if (cyclesFor(times, d, n) < n * together()) {
                    return n;
                }
            }
            return -1;
        }

        public int more(int unit) {
            index(in(unit, 0, 2));
            state(isSound());
            counts[unit]++;
            int bound = bound();
            counts[unit]--;
            return bound;
        }

        public int squeeze(int r) {
            argument(in(r, 0, 99));
            state(isSound());
            for (int d = 1; d <= 12; d++) {
                if (planOf(d) != null && plan(d, 2) <= r) {
                    return d;
                }
            }
            return -1;
        }

        public int count(int what) {
            if (in(what, 1, 4) && !isSound()) {
                return -1;
            }
            switch (what) {
                case 0: return size();
                case 1: return needs().size();
                case 2: return rounds(needs());
                case 3: return byUnits(1);
                case 4: return bound();
                case 5: return together();
                case 6: case 7: case 8: return counts[what - 6];
                default: return -1;
            }
        }
    }
}
