import java.util.function.IntPredicate;

// The document's terms, taken at their word: every relation of few numbers is looked at, and each
// answer is found by the definition of its term alone, without a search that could be wrong too.
public final class PairThreadsTerms {
    private static final int LEFTS = 3;
    private static final int RIGHTS = 4;
    private static final int PAIRS = LEFTS * RIGHTS;
    private static final int RELATIONS = 1 << PAIRS;
    /** Some numbers are a left and a right: by that, pairs have nothing in common. */
    private static final int[][] NUMBERS = {{7, 8, -1}, {-1, 7, 9, 8}};
    private static int wrong = 0;

    private static void due(String call, int got, int want) {
        if (got != want) {
            wrong++;
            System.out.println(call + " answered " + got + ", due is " + want);
        }
    }

    // ---- sets of pairs are the bits of an int; bit p is the pair of left p / RIGHTS and right p % RIGHTS

    private static boolean has(int set, int p) {
        return (set >> p & 1) == 1;
    }

    /** Which of a side's numbers pair p has. */
    private static int index(int side, int p) {
        return side == 0 ? p / RIGHTS : p % RIGHTS;
    }

    private static int number(int side, int p) {
        return NUMBERS[side][index(side, p)];
    }

    private static boolean inCommon(int p, int q) {
        return index(0, p) == index(0, q) || index(1, p) == index(1, q);
    }

    private static int subset(int set, IntPredicate which) {
        int chosen = 0;
        for (int p = 0; p < PAIRS; p++) {
            if (has(set, p) && which.test(p)) {
                chosen |= 1 << p;
            }
        }
        return chosen;
    }

    private static int having(int set, int side, int index) {
        return subset(set, p -> index(side, p) == index);
    }

    private static int nextTo(int set, int some) {
        return subset(set, p -> subset(some, q -> inCommon(p, q)) != 0);
    }

    // ---- the terms

    private static boolean isMatching(int set) {
        for (int p = 0; p < PAIRS; p++) {
            for (int q = p + 1; q < PAIRS; q++) {
                if (has(set, p) && has(set, q) && inCommon(p, q)) {
                    return false;
                }
            }
        }
        return true;
    }

    /** By set, the most pairs of a matching in it: of the set itself, or of it without one pair. */
    private static int[] largestMatchings() {
        int[] largest = new int[RELATIONS];
        for (int set = 1; set < RELATIONS; set++) {
            largest[set] = isMatching(set) ? Integer.bitCount(set) : 0;
            for (int p = 0; p < PAIRS; p++) {
                if (has(set, p)) {
                    largest[set] = Math.max(largest[set], largest[set & ~(1 << p)]);
                }
            }
        }
        return largest;
    }

    private static int hangingTogether(int set, int some) {
        int all = some;
        for (int n = 0; n < PAIRS; n++) {
            all |= nextTo(set, all);
        }
        return all;
    }

    private static int parts(int set) {
        int parts = 0;
        int left = set;
        while (left != 0) {
            left &= ~hangingTogether(set, Integer.lowestOneBit(left));
            parts++;
        }
        return parts;
    }

    private static int leastRow(int set, int firsts, int lasts) {
        int ends = firsts;
        for (int n = 1; n <= PAIRS; n++) {
            if ((ends & lasts) != 0) {
                return n;
            }
            ends = nextTo(set, ends);
        }
        return 0;
    }

    private static int different(int set, int side) {
        int different = 0;
        for (int index = 0; index < NUMBERS[side].length; index++) {
            different += having(set, side, index) == 0 ? 0 : 1;
        }
        return different;
    }

    // ---- a relation, linked in an order that the step tells (it goes round all pairs)

    private static final int[] STEPS = {1, 5, 7, 11};

    private static PairThreads linked(int set, int step) {
        PairThreads x = new PairThreads();
        int many = 0;
        for (int i = 0; i < PAIRS; i++) {
            int p = i * step % PAIRS;
            if (has(set, p)) {
                many++;
                due("link", x.link(number(0, p), number(1, p)), many);
            }
        }
        return x;
    }

    private static void dueCounts(String when, PairThreads x, int set, int largest) {
        due(when + "count(0)", x.count(0), Integer.bitCount(set));
        due(when + "count(1)", x.count(1), different(set, 0));
        due(when + "count(2)", x.count(2), different(set, 1));
        due(when + "count(3)", x.count(3), largest);
        due(when + "count(4)", x.count(4), parts(set));
        due(when + "check()", x.check(), 1);
    }

    private static void dueOrder(String when, PairThreads x, int set, int step) {
        int place = 0;
        for (int i = 0; i < PAIRS; i++) {
            int p = i * step % PAIRS;
            due(when + "place of pair " + p, x.place(number(0, p), number(1, p)), has(set, p) ? place : -1);
            if (has(set, p)) {
                due(when + "at(" + place + ", 0)", x.at(place, 0), number(0, p));
                due(when + "at(" + place + ", 1)", x.at(place, 1), number(1, p));
                place++;
            }
        }
    }

    private static void dueThread(String when, PairThreads x, int set, int step, int side, int index) {
        int v = NUMBERS[side][index];
        int own = having(set, side, index);
        due(when + "degree(" + side + ", " + v + ")", x.degree(side, v), Integer.bitCount(own));
        int nth = 0;
        for (int i = 0; i < PAIRS; i++) {
            int p = i * step % PAIRS;
            if (has(own, p)) {
                due(when + "other(" + side + ", " + v + ", " + nth + ")", x.other(side, v, nth), number(1 - side, p));
                nth++;
            }
        }
    }

    private static void duePart(String when, PairThreads x, int set, int side, int index) {
        int v = NUMBERS[side][index];
        int own = having(set, side, index);
        due(when + "part(" + side + ", " + v + ")", x.part(side, v), Integer.bitCount(hangingTogether(set, own)));
        for (int end = 0; end <= 1; end++) {
            for (int last = 0; last < NUMBERS[end].length; last++) {
                int w = NUMBERS[end][last];
                due(when + "way(" + side + ", " + v + ", " + end + ", " + w + ")", x.way(side, v, end, w),
                        leastRow(set, own, having(set, end, last)));
            }
        }
    }

    private static void everyRelation() {
        int[] largest = largestMatchings();
        for (int set = 0; set < RELATIONS; set++) {
            int step = STEPS[set * 31 / 7 % STEPS.length];
            String when = "relation " + Integer.toBinaryString(set) + ", step " + step + ": ";
            PairThreads x = linked(set, step);
            dueCounts(when, x, set, largest[set]);
            dueOrder(when, x, set, step);
            for (int side = 0; side <= 1; side++) {
                for (int index = 0; index < NUMBERS[side].length; index++) {
                    dueThread(when, x, set, step, side, index);
                    duePart(when, x, set, side, index);
                }
            }
        }
    }

    /** The order of linking is only that: what has no order in it is the same for each. */
    private static void everyOrderOfLinking() {
        int[] largest = largestMatchings();
        for (int set = 0; set < RELATIONS; set++) {
            for (int step : STEPS) {
                String when = "relation " + Integer.toBinaryString(set) + ", step " + step + ": ";
                due(when + "count(3)", linked(set, step).count(3), largest[set]);
            }
        }
    }

    public static void main(String[] args) {
        everyRelation();
        everyOrderOfLinking();
        System.out.println(wrong == 0 ? "all answers are as due" : wrong + " answers are not as due");
        if (wrong != 0) {
            System.exit(1);
        }
    }
}
