import java.util.ArrayList;
import java.util.List;
import java.util.Random;

/**
 * FIRST PLANS of loops whose OPS stand on rings together, for each d: compared with those that are
 * found by going through SLOTS OP by OP, from the least on.
 */
public class PlansTest {
    static final int MOST_TRIES = 60000;
    static int wrong;
    static int compared;
    static int fitting;
    static int left;

    public static void main(String[] args) {
        int loops = args.length > 1 ? Integer.parseInt(args[1]) : 2500;
        long seed = args.length > 2 ? Long.parseLong(args[2]) : 20261118L;
        for (int i = 0; i < loops && wrong < 20; i++) {
            new Trial(seed + i).go();
        }
        System.out.println(compared + " plans compared, " + fitting + " fit, " + left + " left out, " + wrong + " wrong");
        System.exit(wrong == 0 && fitting > loops ? 0 : 1);
    }

    /** One loop. */
    static final class Trial {
        final long seed;
        final Random random;
        final OverlapMill mill = new OverlapMill();
        final int[] units = new int[6];
        final int[] busy = new int[6];
        final int[] counts = new int[3];
        final int[] kinds = new int[8];
        final List<int[]> needs = new ArrayList<>();
        int size;
        int d;
        int tries;

        Trial(long seed) {
            this.seed = seed;
            this.random = new Random(seed);
        }

        void go() {
            tellKinds();
            tellOps();
            if (!mill.isSound()) {
                return;
            }
            for (int i = 0; i < mill.count(1); i++) {
                needs.add(new int[] {mill.need(i, 0), mill.need(i, 1), mill.need(i, 2), mill.need(i, 3)});
            }
            for (d = 1; d <= 12; d++) {
                tries = 0;
                int[] times = d < mill.count(2) ? null : search(new int[size], 0);
                if (tries > MOST_TRIES) {
                    left++;
                } else {
                    compare(times);
                }
            }
        }

        void tellKinds() {
            int shared = 1 + random.nextInt(2);
            for (int kind = 0; kind < 6; kind++) {
                units[kind] = random.nextInt(shared);
                busy[kind] = random.nextBoolean() ? 1 << random.nextInt(4) : 1 + random.nextInt(15);
                mill.kind(kind, units[kind], 1 + random.nextInt(6), busy[kind]);
            }
            for (int unit = 0; unit < 3; unit++) {
                counts[unit] = 1 + random.nextInt(3);
                mill.unit(unit, counts[unit]);
            }
        }

        void tellOps() {
            int all = 3 + random.nextInt(6);
            for (size = 0; size < all; size++) {
                int choice = random.nextInt(10);
                if (choice == 0) {
                    kinds[size] = 4;
                    mill.load(random.nextInt(2), random.nextInt(4));
                } else if (choice == 1 && size >= all - 2 && size > 0) {
                    kinds[size] = 5;
                    int source = random.nextInt(size);
                    mill.store(kinds[source] == 5 ? -1 : source, 0, random.nextInt(2), random.nextInt(8));
                } else {
                    kinds[size] = random.nextInt(4);
                    int a = sourceOf(all);
                    int b = sourceOf(all);
                    mill.reckon(kinds[size], a, distanceOf(a), b, distanceOf(b));
                }
            }
        }

        int sourceOf(int all) {
            int source = random.nextInt(all);
            return random.nextInt(5) == 0 || (source < size && kinds[source] == 5) ? -1 : source;
        }

        int distanceOf(int source) {
            return source < size && random.nextInt(3) > 0 ? 0 : 1 + random.nextInt(3);
        }

        void compare(int[] times) {
            compared++;
            if (mill.fits(d) != (times != null)) {
                tell("fits is " + mill.fits(d));
                return;
            }
            fitting += times == null ? 0 : 1;
            for (int op = 0; times != null && op < size; op++) {
                if (mill.time(op, d) != times[op]) {
                    tell("time of op " + op + " is " + mill.time(op, d) + ", due is " + times[op]);
                    return;
                }
            }
        }

        void tell(String what) {
            wrong++;
            System.out.println("seed " + seed + ", d " + d + ": " + what);
        }

        /** The least SLOTS from op on, behind those ahead of it; null, if there are none. */
        int[] search(int[] slots, int op) {
            if (op == size) {
                return timesOf(slots, size);
            }
            for (int slot = 0; slot < d && ++tries <= MOST_TRIES; slot++) {
                slots[op] = slot;
                if (hasRoom(slots, op + 1) && timesOf(slots, op + 1) != null) {
                    int[] times = search(slots, op + 1);
                    if (times != null) {
                        return times;
                    }
                }
            }
            return null;
        }

        boolean hasRoom(int[] slots, int upTo) {
            int[][] asked = new int[3][d];
            for (int op = 0; op < upTo; op++) {
                for (int r = 0; r < 4; r++) {
                    int unit = units[kinds[op]];
                    if ((busy[kinds[op]] >> r & 1) == 1 && ++asked[unit][(slots[op] + r) % d] > counts[unit]) {
                        return false;
                    }
                }
            }
            return true;
        }

        /** The least TIMES of the first OPS by NEEDS among them; null, if they would rise for ever. */
        int[] timesOf(int[] slots, int upTo) {
            int[] times = slots.clone();
            for (int pass = 0; pass < 60; pass++) {
                boolean fine = true;
                for (int[] need : needs) {
                    while (need[0] < upTo && need[1] < upTo
                            && times[need[1]] < times[need[0]] + need[3] - d * need[2]) {
                        times[need[1]] += d;
                        fine = false;
                    }
                }
                if (fine) {
                    return times;
                }
            }
            return null;
        }
    }
}
