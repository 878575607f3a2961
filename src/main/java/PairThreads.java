import java.util.Arrays;

/**
 * A relation of pairs of ints, looked at from both sides. The pairs of each number are tied into a
 * thread, in the order in which they were linked.
 */
public final class PairThreads {
    public static final int NONE = -1;
    public static final int FULL = -2;

    private static final int MOST = 300;
    private static final int LEFT = 0;
    private static final int RIGHT = 1;

    private final Threads pairs;
    private final Spread spread;
    private final Matching matching;

    public PairThreads() {
        pairs = new Threads();
        spread = new Spread();
        matching = new Matching();
    }

    public int link(int left, int right) {
        if (pairs.placeOf(left, right) != NONE) {
            return NONE;
        }
        if (pairs.size >= MOST) {
            return FULL;
        }
        pairs.append(left, right);
        return pairs.size;
    }

    public int unlink(int left, int right) {
        int found = pairs.placeOf(left, right);
        if (found == NONE) {
            return NONE;
        }
        pairs.takeOut(found);
        return pairs.size;
    }

    public int place(int left, int right) {
        return pairs.placeOf(left, right);
    }

    public int degree(int side, int v) {
        return isSide(side) ? pairs.lengthOf(side, v) : NONE;
    }

    public int other(int side, int v, int i) {
        if (!isSide(side)) {
            return 0;
        }
        int slot = pairs.inThread(side, v, i);
        return slot == NONE ? 0 : pairs.number[1 - side][slot];
    }

    public int drop(int side, int v) {
        return isSide(side) ? pairs.takeOutAll(side, v) : NONE;
    }

    public int rename(int side, int v, int to) {
        return isSide(side) && v != to ? pairs.moveAll(side, v, to) : NONE;
    }

    public int at(int place, int side) {
        if (!isSide(side) || place < 0 || place >= pairs.size) {
            return 0;
        }
        return pairs.number[side][pairs.order[place]];
    }

    public int count(int what) {
        switch (what) {
            case 0:
                return pairs.size;
            case 1:
                return pairs.threadsOn(LEFT);
            case 2:
                return pairs.threadsOn(RIGHT);
            case 3:
                return matching.largest(pairs);
            case 4:
                return spread.allParts(pairs);
            default:
                return NONE;
        }
    }

    public int part(int side, int v) {
        return isSide(side) ? spread.partOf(pairs, side, v) : 0;
    }

    public int way(int side, int v, int otherSide, int w) {
        if (!isSide(side) || !isSide(otherSide)) {
            return 0;
        }
        return spread.leastRow(pairs, side, v, otherSide, w);
    }

    public int clear() {
        int before = pairs.size;
        pairs.size = 0;
        return before;
    }

    public int check() {
        return pairs.areSound(LEFT) && pairs.areSound(RIGHT) ? 1 : 0;
    }

    private static boolean isSide(int side) {
        return side == LEFT || side == RIGHT;
    }

    /**
     * The linked pairs. Each stands in a slot that it keeps while it is linked, so that what is tied
     * to it need not change when its place does.
     */
    private static final class Threads {
        /** By place, the slots of the linked pairs; behind them, the slots that are free. */
        private final int[] order = new int[MOST];
        /** By side and slot. */
        private final int[][] number = new int[2][MOST];
        /** By side and slot: the neighbours in the thread of the number, or NONE. */
        private final int[][] before = new int[2][MOST];
        private final int[][] after = new int[2][MOST];
        private int size;

        Threads() {
            for (int slot = 0; slot < MOST; slot++) {
                order[slot] = slot;
            }
        }

        int placeOf(int left, int right) {
            for (int i = 0; i < size; i++) {
                int slot = order[i];
                if (number[LEFT][slot] == left && number[RIGHT][slot] == right) {
                    return i;
                }
            }
            return NONE;
        }

        int firstOf(int side, int v) {
            for (int i = 0; i < size; i++) {
                if (number[side][order[i]] == v) {
                    return order[i];
                }
            }
            return NONE;
        }

        private int lastOf(int side, int v) {
            for (int i = size - 1; i >= 0; i--) {
                if (number[side][order[i]] == v) {
                    return order[i];
                }
            }
            return NONE;
        }

        /** The first of the thread that a slot is in. */
        int headOf(int side, int slot) {
            int head = slot;
            for (int n = 0; n < size && before[side][head] != NONE; n++) {
                head = before[side][head];
            }
            return head;
        }

        int lengthOf(int side, int v) {
            int length = 0;
            int slot = firstOf(side, v);
            for (int n = 0; n < size && slot != NONE; n++) {
                length++;
                slot = after[side][slot];
            }
            return length;
        }

        /** The slot of pair i in the thread of a number, or NONE. */
        int inThread(int side, int v, int i) {
            if (i < 0 || i >= size) {
                return NONE;
            }
            int slot = firstOf(side, v);
            for (int n = 0; n < i && slot != NONE; n++) {
                slot = after[side][slot];
            }
            return slot;
        }

        int threadsOn(int side) {
            int threads = 0;
            for (int i = 0; i < size; i++) {
                if (before[side][order[i]] == NONE) {
                    threads++;
                }
            }
            return threads;
        }

        /** Only for a pair that is not linked, while there is room. */
        void append(int left, int right) {
            int slot = order[size];
            tieOn(LEFT, slot, left);
            tieOn(RIGHT, slot, right);
            size++;
        }

        private void tieOn(int side, int slot, int v) {
            int last = lastOf(side, v);
            number[side][slot] = v;
            before[side][slot] = last;
            after[side][slot] = NONE;
            if (last != NONE) {
                after[side][last] = slot;
            }
        }

        /** Only for a place that a pair has. */
        void takeOut(int place) {
            int slot = order[place];
            untie(LEFT, slot);
            untie(RIGHT, slot);
            size--;
            System.arraycopy(order, place + 1, order, place, size - place);
            order[size] = slot;
        }

        private void untie(int side, int slot) {
            int previous = before[side][slot];
            int next = after[side][slot];
            if (previous != NONE) {
                after[side][previous] = next;
            }
            if (next != NONE) {
                before[side][next] = previous;
            }
        }

        int takeOutAll(int side, int v) {
            int taken = 0;
            for (int i = size - 1; i >= 0; i--) {
                if (number[side][order[i]] == v) {
                    takeOut(i);
                    taken++;
                }
            }
            return taken;
        }

        /** Only for two different numbers. */
        int moveAll(int side, int v, int to) {
            int anew = 0;
            int place = 0;
            // Pairs that are linked on the way come last, where this loop does not get to.
            int all = size;
            for (int n = 0; n < all; n++) {
                int slot = order[place];
                if (number[side][slot] != v) {
                    place++;
                    continue;
                }
                int left = side == LEFT ? to : number[LEFT][slot];
                int right = side == RIGHT ? to : number[RIGHT][slot];
                takeOut(place);
                if (placeOf(left, right) == NONE) {
                    append(left, right);
                    anew++;
                }
            }
            return anew;
        }

        boolean areSound(int side) {
            for (int i = 0; i < size; i++) {
                int slot = order[i];
                if (firstOf(side, number[side][slot]) == slot && !isSoundFrom(side, i)) {
                    return false;
                }
            }
            return true;
        }

        /** Whether the thread that begins at a place goes just as the order does. */
        private boolean isSoundFrom(int side, int place) {
            int due = order[place];
            int previous = NONE;
            int v = number[side][due];
            for (int i = place; i < size; i++) {
                int slot = order[i];
                if (number[side][slot] != v) {
                    continue;
                }
                if (slot != due || before[side][slot] != previous) {
                    return false;
                }
                previous = slot;
                due = after[side][slot];
            }
            return due == NONE;
        }
    }

    /** What hangs together with some pairs, the nearest first. Its rows are used again by each call. */
    private static final class Spread {
        /** The slots that have been reached, in that order. */
        private final int[] reached = new int[MOST];
        private int found;
        /** By slot: how many pairs a row to it has, itself too; 0 when it has not been reached. */
        private final int[] rowTo = new int[MOST];
        /** By side and slot: 1 when its thread has been walked, so that none is walked twice. */
        private final int[][] walked = new int[2][MOST];

        int partOf(Threads pairs, int side, int v) {
            start(pairs, side, v);
            return found;
        }

        int leastRow(Threads pairs, int side, int v, int otherSide, int w) {
            start(pairs, side, v);
            for (int i = 0; i < found; i++) {
                if (pairs.number[otherSide][reached[i]] == w) {
                    return rowTo[reached[i]];
                }
            }
            return 0;
        }

        int allParts(Threads pairs) {
            int parts = 0;
            forget();
            for (int i = 0; i < pairs.size; i++) {
                int slot = pairs.order[i];
                if (rowTo[slot] == 0) {
                    parts++;
                    spreadFrom(pairs, LEFT, slot);
                }
            }
            return parts;
        }

        private void start(Threads pairs, int side, int v) {
            forget();
            int first = pairs.firstOf(side, v);
            if (first != NONE) {
                spreadFrom(pairs, side, first);
            }
        }

        private void forget() {
            found = 0;
            Arrays.fill(rowTo, 0);
            Arrays.fill(walked[LEFT], 0);
            Arrays.fill(walked[RIGHT], 0);
        }

        /** Reaches the whole part of a slot, from the thread that it is in on a side. */
        private void spreadFrom(Threads pairs, int side, int slot) {
            int start = found;
            walk(pairs, side, slot, 1);
            for (int i = start; i < found && i < MOST; i++) {
                int next = reached[i];
                walk(pairs, LEFT, next, rowTo[next] + 1);
                walk(pairs, RIGHT, next, rowTo[next] + 1);
            }
        }

        private void walk(Threads pairs, int side, int slot, int row) {
            if (walked[side][slot] == 1) {
                return;
            }
            int next = pairs.headOf(side, slot);
            for (int n = 0; n < pairs.size && next != NONE; n++) {
                walked[side][next] = 1;
                reach(next, row);
                next = pairs.after[side][next];
            }
        }

        private void reach(int slot, int row) {
            if (rowTo[slot] == 0) {
                rowTo[slot] = row;
                reached[found] = slot;
                found++;
            }
        }
    }

    /**
     * The largest matching: it is made larger by one, along a row of pairs that are by turns outside
     * and inside it, as long as there is such a row. Its rows are used again by each call.
     */
    private static final class Matching {
        /** By side and slot: the first slot of the same number, which stands for that number. */
        private final int[][] head = new int[2][MOST];
        /** By side and head: the slot of the pair that the matching has of the number, or NONE. */
        private final int[][] chosen = new int[2][MOST];
        /** The slots of pairs that could come in, in the order in which they were found. */
        private final int[] waiting = new int[MOST];
        private int found;
        /** By slot: the pair whose coming in would free the left of this one, or NONE. */
        private final int[] cause = new int[MOST];
        /** By head of a right: 1 when the search has been there. */
        private final int[] seen = new int[MOST];

        int largest(Threads pairs) {
            findHeads(pairs, LEFT);
            findHeads(pairs, RIGHT);
            int matched = takeFree(pairs);
            for (int n = matched; n < pairs.size && grow(pairs); n++) {
                matched++;
            }
            return matched;
        }

        private void findHeads(Threads pairs, int side) {
            for (int i = 0; i < pairs.size; i++) {
                int slot = pairs.order[i];
                int previous = pairs.before[side][slot];
                head[side][slot] = previous == NONE ? slot : head[side][previous];
            }
        }

        /** A first matching, which spares most of the searches. */
        private int takeFree(Threads pairs) {
            int matched = 0;
            Arrays.fill(chosen[LEFT], NONE);
            Arrays.fill(chosen[RIGHT], NONE);
            for (int i = 0; i < pairs.size; i++) {
                int slot = pairs.order[i];
                if (chosenOf(LEFT, slot) == NONE && chosenOf(RIGHT, slot) == NONE) {
                    choose(slot);
                    matched++;
                }
            }
            return matched;
        }

        private int chosenOf(int side, int slot) {
            return chosen[side][head[side][slot]];
        }

        private void choose(int slot) {
            chosen[LEFT][head[LEFT][slot]] = slot;
            chosen[RIGHT][head[RIGHT][slot]] = slot;
        }

        private boolean grow(Threads pairs) {
            Arrays.fill(seen, 0);
            awaitFree(pairs);
            for (int i = 0; i < found && i < MOST; i++) {
                int slot = waiting[i];
                int right = head[RIGHT][slot];
                if (seen[right] == 1) {
                    continue;
                }
                seen[right] = 1;
                if (chosen[RIGHT][right] == NONE) {
                    turn(slot, pairs.size);
                    return true;
                }
                awaitInstead(pairs, chosen[RIGHT][right], slot);
            }
            return false;
        }

        private void awaitFree(Threads pairs) {
            found = 0;
            for (int i = 0; i < pairs.size; i++) {
                int slot = pairs.order[i];
                if (chosenOf(LEFT, slot) == NONE) {
                    await(slot, NONE);
                }
            }
        }

        /** If a chosen pair gave way, any other pair of its left could come in. */
        private void awaitInstead(Threads pairs, int given, int by) {
            int slot = head[LEFT][given];
            for (int n = 0; n < pairs.size && slot != NONE; n++) {
                if (slot != given) {
                    await(slot, by);
                }
                slot = pairs.after[LEFT][slot];
            }
        }

        private void await(int slot, int by) {
            cause[slot] = by;
            waiting[found] = slot;
            found++;
        }

        /** Lets the pairs of a row come in, from its last to its first. */
        private void turn(int last, int most) {
            int slot = last;
            for (int n = 0; n < most && slot != NONE; n++) {
                choose(slot);
                slot = cause[slot];
            }
        }
    }
}
