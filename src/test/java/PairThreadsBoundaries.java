import java.util.ArrayList;
import java.util.Arrays;
import java.util.List;
import java.util.function.Consumer;
import java.util.function.IntFunction;
import java.util.function.Supplier;

// The boundary cases: a test of its own for each sentence of the document that names one.
public final class PairThreadsBoundaries {
    private static final int MIN = Integer.MIN_VALUE;
    private static final int MAX = Integer.MAX_VALUE;
    private static final int NONE = -1;
    private static final int FULL = -2;
    private static final int[] NO_SIDES = {-1, -2, 2, 3, 300, MIN, MAX};
    private static final int[] EDGE_INTS = {MIN, MIN + 1, -2, -1, 0, 1, MAX - 1, MAX};
    /** Few pairs in which the first and the last have a left in common, and each number a thread. */
    private static final int[] FEW = {1, 11, 2, 11, 2, 12, 3, 13, 1, 13};

    private static String test = "";
    private static int tests = 0;
    private static int wrong = 0;

    private static void tell(String what) {
        wrong++;
        System.out.println(test + ": " + what);
    }

    private record Answer(String call, int got) {
        void due(int want) {
            if (got != want) {
                tell(call + " answered " + got + ", due is " + want);
            }
        }
    }

    /** One object. Its calls are counted, because nothing is promised behind the 512th. */
    private static final class Run {
        private final PairThreads x = new PairThreads();
        private int calls = 0;

        private Answer answer(int got, String name, int... given) {
            calls++;
            if (calls > 512) {
                tell("the test itself makes more than 512 calls");
            }
            StringBuilder call = new StringBuilder(name);
            for (int i = 0; i < given.length; i++) {
                call.append(i == 0 ? "(" : ", ").append(given[i]);
            }
            return new Answer(call.append(given.length == 0 ? "()" : ")").toString(), got);
        }

        Answer link(int left, int right) {
            return answer(x.link(left, right), "link", left, right);
        }

        Answer unlink(int left, int right) {
            return answer(x.unlink(left, right), "unlink", left, right);
        }

        Answer place(int left, int right) {
            return answer(x.place(left, right), "place", left, right);
        }

        Answer degree(int side, int v) {
            return answer(x.degree(side, v), "degree", side, v);
        }

        Answer other(int side, int v, int i) {
            return answer(x.other(side, v, i), "other", side, v, i);
        }

        Answer drop(int side, int v) {
            return answer(x.drop(side, v), "drop", side, v);
        }

        Answer rename(int side, int v, int to) {
            return answer(x.rename(side, v, to), "rename", side, v, to);
        }

        Answer at(int place, int side) {
            return answer(x.at(place, side), "at", place, side);
        }

        Answer count(int what) {
            return answer(x.count(what), "count", what);
        }

        Answer part(int side, int v) {
            return answer(x.part(side, v), "part", side, v);
        }

        Answer way(int side, int v, int otherSide, int w) {
            return answer(x.way(side, v, otherSide, w), "way", side, v, otherSide, w);
        }

        Answer clear() {
            return answer(x.clear(), "clear");
        }

        Answer check() {
            return answer(x.check(), "check");
        }

        void counts(int... wants) {
            for (int what = 0; what < wants.length; what++) {
                count(what).due(wants[what]);
            }
        }
    }

    // ---- how tests make objects; pairs are told as lefts and rights by turns

    private static Run linked(int... numbers) {
        Run run = new Run();
        for (int i = 0; i < numbers.length; i += 2) {
            run.link(numbers[i], numbers[i + 1]).due(i / 2 + 1);
        }
        return run;
    }

    private static int[] pairs(int many, IntFunction<int[]> pair) {
        int[] numbers = new int[2 * many];
        for (int i = 0; i < many; i++) {
            System.arraycopy(pair.apply(i), 0, numbers, 2 * i, 2);
        }
        return numbers;
    }

    private static int[] pair(int left, int right) {
        return new int[] {left, right};
    }

    /** 300 pairs: each of the lefts 1 to 20 with each of the rights 101 to 115. */
    private static int[] grid() {
        return pairs(300, i -> pair(i % 20 + 1, i / 20 + 101));
    }

    /** 300 pairs of the number 7 on a side, with 1 to 300. */
    private static int[] star(int side) {
        return pairs(300, i -> side == 0 ? pair(7, i + 1) : pair(i + 1, 7));
    }

    /** 300 pairs without a number in common. */
    private static int[] apart() {
        return pairs(300, i -> pair(i + 1, 1000 - i));
    }

    /** 300 pairs in one row, from the right 0 to the right 150; pair i stands i-th in the row. */
    private static int[] row() {
        return pairs(300, i -> pair(i / 2, (i + 1) / 2));
    }

    /** The same row with its ends joined: its right 150 is its right 0. */
    private static int[] ring() {
        return pairs(300, i -> pair(i / 2, (i + 1) / 2 % 150));
    }

    private static int[] backwards(int[] numbers) {
        int many = numbers.length / 2;
        return pairs(many, i -> pair(numbers[2 * (many - 1 - i)], numbers[2 * (many - 1 - i) + 1]));
    }

    /** Every second pair first, then those between them. */
    private static int[] secondsFirst(int[] numbers) {
        int half = numbers.length / 4;
        return pairs(2 * half, i -> {
            int from = i < half ? 2 * i : 2 * (i - half) + 1;
            return pair(numbers[2 * from], numbers[2 * from + 1]);
        });
    }

    private static int[] changedAbout(int[] numbers) {
        return pairs(numbers.length / 2, i -> pair(numbers[2 * i + 1], numbers[2 * i]));
    }

    private static int[] without(int[] numbers, int place) {
        return pairs(numbers.length / 2 - 1, i -> {
            int from = i < place ? i : i + 1;
            return pair(numbers[2 * from], numbers[2 * from + 1]);
        });
    }

    private static int[] with(int[] numbers, int... more) {
        int[] all = Arrays.copyOf(numbers, numbers.length + more.length);
        System.arraycopy(more, 0, all, numbers.length, more.length);
        return all;
    }

    private static List<int[]> shapes() {
        return List.of(new int[] {}, new int[] {5, 6}, FEW, grid(), star(0), star(1), apart(), row());
    }

    // ---- how tests look at a whole state

    /** Looks at an object as long as it has calls left, and then at another that was made alike. */
    private static final class Looks {
        private final Supplier<Run> make;
        private Run run;

        Looks(Supplier<Run> make) {
            this.make = make;
            run = make.get();
        }

        Run next() {
            if (run.calls >= 512) {
                run = make.get();
            }
            return run;
        }
    }

    private static void dueState(Supplier<Run> make, int... numbers) {
        Looks looks = new Looks(make);
        int many = numbers.length / 2;
        looks.next().check().due(1);
        looks.next().count(0).due(many);
        for (int i = 0; i < many; i++) {
            looks.next().at(i, 0).due(numbers[2 * i]);
            looks.next().at(i, 1).due(numbers[2 * i + 1]);
            looks.next().place(numbers[2 * i], numbers[2 * i + 1]).due(i);
        }
        looks.next().at(many, 0).due(0);
        looks.next().at(many, 1).due(0);
        dueThreads(looks, 0, numbers);
        dueThreads(looks, 1, numbers);
    }

    private static void dueThreads(Looks looks, int side, int[] numbers) {
        List<Integer> told = new ArrayList<>();
        for (int i = side; i < numbers.length; i += 2) {
            if (!told.contains(numbers[i])) {
                told.add(numbers[i]);
                dueThread(looks, side, numbers[i], numbers);
            }
        }
        looks.next().count(1 + side).due(told.size());
    }

    private static void dueThread(Looks looks, int side, int v, int[] numbers) {
        int degree = 0;
        for (int i = 0; i < numbers.length; i += 2) {
            if (numbers[i + side] == v) {
                looks.next().other(side, v, degree).due(numbers[i + 1 - side]);
                degree++;
            }
        }
        looks.next().other(side, v, degree).due(0);
        looks.next().degree(side, v).due(degree);
    }

    /** The pairs are linked, the call is made, and then there are just the pairs that are due. */
    private static void behind(int[] before, Consumer<Run> call, int... due) {
        dueState(() -> {
            Run run = linked(before);
            call.accept(run);
            return run;
        }, due);
    }

    private static void nothingDoneBy(int[] before, Consumer<Run> call) {
        behind(before, call, before);
    }

    // ---- the terms and the constants

    private static void constants() {
        new Answer("NONE", PairThreads.NONE).due(-1);
        new Answer("FULL", PairThreads.FULL).due(-2);
    }

    private static void anyInts() {
        int many = EDGE_INTS.length * EDGE_INTS.length;
        int[] all = pairs(many, i -> pair(EDGE_INTS[i / EDGE_INTS.length], EDGE_INTS[i % EDGE_INTS.length]));
        dueState(() -> linked(all), all);
        Run run = linked(all);
        for (int v : EDGE_INTS) {
            for (int side = 0; side <= 1; side++) {
                run.degree(side, v).due(EDGE_INTS.length);
                run.part(side, v).due(many);
                run.way(side, v, 1 - side, v).due(1);
                run.way(side, v, side, v == MIN ? MAX : MIN).due(2);
            }
        }
        run.counts(many, 8, 8, 8, 1);
    }

    private static void smallestAndLargestInt() {
        int[] four = {MIN, MAX, MAX, MIN, MIN, MIN, MAX, MAX};
        for (int i = 0; i < 4; i++) {
            int left = four[2 * i];
            int right = four[2 * i + 1];
            nothingDoneBy(four, run -> run.link(left, right).due(NONE));
            behind(four, run -> run.unlink(left, right).due(3), without(four, i));
        }
        behind(four, run -> run.drop(0, MIN).due(2), MAX, MIN, MAX, MAX);
        behind(four, run -> run.drop(1, MAX).due(2), MAX, MIN, MIN, MIN);
        behind(four, run -> run.rename(0, MIN, MAX).due(0), MAX, MIN, MAX, MAX);
        behind(four, run -> run.rename(1, MAX, MIN).due(0), MAX, MIN, MIN, MIN);
        behind(four, run -> run.rename(0, MAX, 0).due(2), MIN, MAX, MIN, MIN, 0, MIN, 0, MAX);
        behind(new int[] {0, 0}, run -> run.rename(0, 0, MIN).due(1), MIN, 0);
        behind(new int[] {0, 0}, run -> run.rename(1, 0, MAX).due(1), 0, MAX);
        linked(MIN, 1, MAX, 2).counts(2, 2, 2, 2, 2);
        linked(1, MIN, 2, MAX).counts(2, 2, 2, 2, 2);
    }

    private static void equalIntsHaveNothingInCommon() {
        Run run = linked(5, 6, 6, 5);
        run.counts(2, 2, 2, 2, 2);
        run.degree(0, 5).due(1);
        run.degree(1, 5).due(1);
        run.other(0, 5, 0).due(6);
        run.other(1, 5, 0).due(6);
        run.part(0, 5).due(1);
        run.part(1, 5).due(1);
        run.way(0, 5, 1, 5).due(0);
        run.way(0, 5, 0, 6).due(0);
        run.way(0, 5, 1, 6).due(1);
        linked(5, 5, 6, 6).counts(2, 2, 2, 2, 2);
        linked(5, 5).counts(1, 1, 1, 1, 1);
        behind(new int[] {5, 6, 6, 5}, r -> r.drop(0, 5).due(1), 6, 5);
        behind(new int[] {5, 6, 6, 5}, r -> r.drop(1, 5).due(1), 5, 6);
        behind(new int[] {5, 6, 6, 5}, r -> r.rename(0, 5, 9).due(1), 6, 5, 9, 6);
        behind(new int[] {5, 6, 6, 5}, r -> r.rename(1, 5, 9).due(1), 5, 6, 6, 9);
        behind(new int[] {5, 6}, r -> r.rename(0, 5, 6).due(1), 6, 6);
    }

    private static void atMost300DifferentPairs() {
        for (int[] all : List.of(grid(), star(0), star(1), apart(), row())) {
            dueState(() -> linked(all), all);
            nothingDoneBy(all, run -> run.link(-5, -6).due(FULL));
        }
    }

    /** What was taken away makes room again, however often. */
    private static void roomIsUsedAgain() {
        Run run = new Run();
        for (int i = 0; i < 50; i++) {
            run.link(1, i).due(1);
            run.unlink(1, i).due(0);
        }
        for (int i = 0; i < 300; i++) {
            run.link(i % 3, i).due(i + 1);
        }
        run.link(3, 0).due(FULL);
        run.counts(300, 3, 300, 3, 3);
        run.check().due(1);
    }

    private static void linkedAgainIsTheLast() {
        int[] last = with(without(FEW, 0), 1, 11);
        behind(FEW, run -> {
            run.unlink(1, 11).due(4);
            run.link(1, 11).due(5);
        }, last);
        behind(FEW, run -> {
            run.drop(0, 2).due(2);
            run.link(2, 12).due(4);
            run.link(2, 11).due(5);
        }, 1, 11, 3, 13, 1, 13, 2, 12, 2, 11);
        behind(FEW, run -> {
            run.rename(0, 2, 9).due(2);
            run.rename(0, 9, 2).due(2);
        }, 1, 11, 3, 13, 1, 13, 2, 11, 2, 12);
        behind(FEW, run -> {
            run.unlink(1, 13).due(4);
            run.link(1, 13).due(5);
        }, FEW);
        int[] grid = grid();
        behind(grid, run -> {
            run.unlink(1, 101).due(299);
            run.link(1, 101).due(300);
        }, with(without(grid, 0), 1, 101));
    }

    // ---- promise 1

    private static void newObject() {
        dueState(Run::new);
        for (int v : EDGE_INTS) {
            new Run().link(v, v).due(1);
            new Run().unlink(v, v).due(NONE);
            new Run().place(v, v).due(NONE);
            new Run().at(v, 0).due(0);
            new Run().at(v, 1).due(0);
            for (int side = 0; side <= 1; side++) {
                new Run().degree(side, v).due(0);
                new Run().other(side, v, 0).due(0);
                new Run().drop(side, v).due(0);
                new Run().rename(side, v, 7).due(0);
                new Run().rename(side, v, v).due(NONE);
                new Run().part(side, v).due(0);
                new Run().way(side, v, side, v).due(0);
                new Run().way(side, v, 1 - side, v).due(0);
            }
        }
        for (int what = 0; what <= 4; what++) {
            new Run().count(what).due(0);
        }
        new Run().clear().due(0);
        new Run().check().due(1);
    }

    private static void newObjectAndNoSuchSide() {
        for (int side : NO_SIDES) {
            new Run().degree(side, 0).due(NONE);
            new Run().other(side, 0, 0).due(0);
            new Run().drop(side, 0).due(NONE);
            new Run().rename(side, 0, 1).due(NONE);
            new Run().at(0, side).due(0);
            new Run().part(side, 0).due(0);
            new Run().way(side, 0, 0, 0).due(0);
            new Run().way(0, 0, side, 0).due(0);
        }
    }

    private static void newObjectBesideOthers() {
        Run full = linked(grid());
        Run fresh = new Run();
        fresh.counts(0, 0, 0, 0, 0);
        fresh.place(1, 101).due(NONE);
        fresh.link(9, 9).due(1);
        full.place(9, 9).due(NONE);
        full.counts(300, 20, 15, 15, 1);
    }

    // ---- promise 2

    private static void linkOfLinkedWithRoom() {
        for (int i = 0; i < FEW.length; i += 2) {
            int left = FEW[i];
            int right = FEW[i + 1];
            nothingDoneBy(FEW, run -> run.link(left, right).due(NONE));
        }
        nothingDoneBy(new int[] {0, 0}, run -> run.link(0, 0).due(NONE));
        Run run = linked(without(grid(), 299));
        run.link(1, 101).due(NONE);
        run.link(19, 115).due(NONE);
        run.link(20, 115).due(300);
    }

    private static void linkOfLinkedWith300() {
        int[] grid = grid();
        for (int i : new int[] {0, 150, 299}) {
            nothingDoneBy(grid, run -> run.link(grid[2 * i], grid[2 * i + 1]).due(NONE));
        }
    }

    private static void linkOfOtherPairsOfLinkedNumbers() {
        behind(FEW, run -> run.link(3, 11).due(6), with(FEW, 3, 11));
        behind(FEW, run -> run.link(11, 1).due(6), with(FEW, 11, 1));
    }

    private static void the300thPairAndOneMore() {
        Run run = linked(without(apart(), 299));
        run.count(0).due(299);
        run.link(-7, -8).due(300);
        run.place(-7, -8).due(299);
        run.link(-9, -10).due(FULL);
        run.place(-9, -10).due(NONE);
        run.degree(0, -9).due(0);
        run.degree(1, -10).due(0);
        run.at(300, 0).due(0);
        run.counts(300, 300, 300, 300, 300);
        int[] grid = grid();
        for (int v : EDGE_INTS) {
            nothingDoneBy(grid, r -> r.link(v, v).due(FULL));
        }
        nothingDoneBy(grid, r -> r.link(1, 116).due(FULL));
        nothingDoneBy(grid, r -> r.link(21, 101).due(FULL));
        nothingDoneBy(grid, r -> r.link(101, 1).due(FULL));
    }

    private static void linkBehindFull() {
        int[] grid = grid();
        behind(grid, run -> {
            run.link(50, 60).due(FULL);
            run.unlink(20, 115).due(299);
            run.link(50, 60).due(300);
            run.link(20, 115).due(FULL);
        }, with(without(grid, 299), 50, 60));
        Run dropped = linked(grid);
        dropped.drop(0, 3).due(15);
        for (int i = 0; i < 15; i++) {
            dropped.link(60 + i, 70).due(286 + i);
        }
        dropped.link(59, 70).due(FULL);
        Run renamed = linked(grid);
        renamed.rename(0, 3, 4).due(0);
        renamed.link(3, 101).due(286);
        Run cleared = linked(grid);
        cleared.clear().due(300);
        cleared.link(50, 60).due(1);
    }

    // ---- promise 3

    private static void unlinkOnNoPairs() {
        nothingDoneBy(new int[] {}, run -> run.unlink(0, 0).due(NONE));
        behind(new int[] {4, 5}, run -> {
            run.unlink(4, 5).due(0);
            run.unlink(4, 5).due(NONE);
        });
        behind(FEW, run -> {
            run.clear().due(5);
            run.unlink(1, 11).due(NONE);
        });
    }

    private static void unlinkOnOthers() {
        nothingDoneBy(FEW, run -> run.unlink(3, 11).due(NONE));
        nothingDoneBy(FEW, run -> run.unlink(1, 99).due(NONE));
        nothingDoneBy(FEW, run -> run.unlink(99, 11).due(NONE));
        nothingDoneBy(FEW, run -> run.unlink(0, 0).due(NONE));
        nothingDoneBy(grid(), run -> run.unlink(21, 101).due(NONE));
    }

    private static void unlinkOfLeftAndRightChangedAbout() {
        nothingDoneBy(FEW, run -> run.unlink(11, 1).due(NONE));
        nothingDoneBy(new int[] {5, 6}, run -> run.unlink(6, 5).due(NONE));
        behind(new int[] {5, 6, 6, 5}, run -> run.unlink(6, 5).due(1), 5, 6);
        nothingDoneBy(grid(), run -> run.unlink(101, 1).due(NONE));
    }

    private static void unlinkOfEachPlace() {
        for (int i = 0; i < FEW.length / 2; i++) {
            int at = i;
            behind(FEW, run -> run.unlink(FEW[2 * at], FEW[2 * at + 1]).due(4), without(FEW, at));
        }
        int[] grid = grid();
        for (int at : new int[] {0, 1, 150, 298, 299}) {
            behind(grid, run -> run.unlink(grid[2 * at], grid[2 * at + 1]).due(299), without(grid, at));
        }
    }

    // ---- promise 4

    private static void placeOnNoPairs() {
        new Run().place(0, 0).due(NONE);
        Run run = linked(4, 5);
        run.unlink(4, 5).due(0);
        run.place(4, 5).due(NONE);
        run.link(4, 5).due(1);
        run.clear().due(1);
        run.place(4, 5).due(NONE);
    }

    private static void placeOnOthers() {
        Run run = linked(FEW);
        run.place(3, 11).due(NONE);
        run.place(1, 99).due(NONE);
        run.place(99, 11).due(NONE);
        run.place(0, 0).due(NONE);
    }

    private static void placeOfLeftAndRightChangedAbout() {
        Run run = linked(FEW);
        run.place(11, 1).due(NONE);
        run.link(13, 3).due(6);
        run.place(13, 3).due(5);
        run.place(3, 13).due(3);
    }

    private static void firstAndLastPlaceOfAPair() {
        linked(5, 6).place(5, 6).due(0);
        Run run = linked(grid());
        run.place(1, 101).due(0);
        run.place(20, 115).due(299);
        run.unlink(1, 101).due(299);
        run.place(2, 101).due(0);
        run.place(20, 115).due(298);
        run.place(1, 101).due(NONE);
    }

    // ---- promise 5

    private static void degreeWithNoSuchSide() {
        for (int[] shape : shapes()) {
            Run run = linked(shape);
            for (int side : NO_SIDES) {
                run.degree(side, 1).due(NONE);
                run.degree(side, 7).due(NONE);
                run.degree(side, 99999).due(NONE);
            }
        }
    }

    private static void degreeOfNumberThatNoPairHas() {
        for (int[] shape : shapes()) {
            Run run = linked(shape);
            run.degree(0, 99999).due(0);
            run.degree(1, 99999).due(0);
        }
        Run run = linked(FEW);
        run.degree(0, 11).due(0);
        run.degree(1, 1).due(0);
        run.degree(0, 0).due(0);
        run.unlink(2, 12).due(4);
        run.degree(1, 12).due(0);
        run.drop(0, 1).due(2);
        run.degree(0, 1).due(0);
        run.rename(0, 3, 4).due(1);
        run.degree(0, 3).due(0);
    }

    private static void degreeOfOneAndOf300() {
        linked(5, 6).degree(0, 5).due(1);
        linked(5, 6).degree(1, 6).due(1);
        linked(star(0)).degree(0, 7).due(300);
        linked(star(1)).degree(1, 7).due(300);
        linked(star(0)).degree(1, 300).due(1);
    }

    // ---- promise 6

    private static void otherBelow0AndBeyondTheDegree() {
        Run run = linked(FEW);
        for (int i : new int[] {-1, -2, 2, 3, 4, 5, 299, 300, 301, MIN, MIN + 1, MAX - 1, MAX}) {
            run.other(0, 1, i).due(0);
            run.other(1, 13, i).due(0);
        }
        for (int side = 0; side <= 1; side++) {
            Run star = linked(star(side));
            for (int i : new int[] {-1, 300, 301, MIN, MAX}) {
                star.other(side, 7, i).due(0);
            }
        }
    }

    private static void otherWithNoSuchSide() {
        for (int side : NO_SIDES) {
            Run run = linked(FEW);
            run.other(side, 1, 0).due(0);
            run.other(side, 11, 0).due(0);
            run.other(side, 1, -1).due(0);
        }
    }

    private static void otherOfNumberThatNoPairHas() {
        for (int[] shape : shapes()) {
            Run run = linked(shape);
            for (int i : new int[] {0, 1, -1, MIN, MAX}) {
                run.other(0, 99999, i).due(0);
                run.other(1, 99999, i).due(0);
            }
        }
        Run run = linked(FEW);
        run.other(0, 11, 0).due(0);
        run.other(1, 1, 0).due(0);
        run.drop(0, 1).due(2);
        run.other(0, 1, 0).due(0);
        run.other(1, 13, 1).due(0);
    }

    private static void firstAndLastOther() {
        Run run = linked(FEW);
        run.other(0, 1, 0).due(11);
        run.other(0, 1, 1).due(13);
        run.other(1, 13, 0).due(3);
        run.other(1, 13, 1).due(1);
        run.other(1, 12, 0).due(2);
        run.unlink(1, 11).due(4);
        run.other(0, 1, 0).due(13);
        run.other(0, 1, 1).due(0);
        for (int side = 0; side <= 1; side++) {
            Run star = linked(star(side));
            star.other(side, 7, 0).due(1);
            star.other(side, 7, 299).due(300);
            star.other(1 - side, 300, 0).due(7);
            star.other(1 - side, 300, 1).due(0);
        }
    }

    // ---- promise 7

    private static void dropWithNoSuchSide() {
        for (int side : NO_SIDES) {
            new Run().drop(side, 1).due(NONE);
            nothingDoneBy(FEW, run -> {
                run.drop(side, 1).due(NONE);
                run.drop(side, 11).due(NONE);
                run.drop(side, 99999).due(NONE);
            });
            linked(star(0)).drop(side, 7).due(NONE);
        }
    }

    private static void dropOfNumberThatNoPairHas() {
        for (int[] shape : shapes()) {
            nothingDoneBy(shape, run -> {
                run.drop(0, 99999).due(0);
                run.drop(1, 99999).due(0);
            });
        }
        nothingDoneBy(FEW, run -> run.drop(0, 11).due(0));
        nothingDoneBy(FEW, run -> run.drop(1, 1).due(0));
        nothingDoneBy(FEW, run -> run.drop(1, 0).due(0));
    }

    private static void dropOfNumberThatAllPairsHave() {
        behind(new int[] {5, 6}, run -> run.drop(0, 5).due(1));
        behind(new int[] {5, 6}, run -> run.drop(1, 6).due(1));
        for (int side = 0; side <= 1; side++) {
            int on = side;
            behind(star(side), run -> run.drop(on, 7).due(300));
            behind(star(side), run -> {
                run.drop(on, 7).due(300);
                run.drop(on, 7).due(0);
                run.link(7, 9).due(1);
                run.link(8, 9).due(2);
            }, 7, 9, 8, 9);
        }
    }

    private static void dropOfNumberOfTheFirstAndTheLastPair() {
        behind(FEW, run -> run.drop(0, 1).due(2), 2, 11, 2, 12, 3, 13);
        behind(FEW, run -> run.drop(1, 11).due(2), 2, 12, 3, 13, 1, 13);
        behind(FEW, run -> run.drop(1, 13).due(2), 1, 11, 2, 11, 2, 12);
        behind(changedAbout(FEW), run -> run.drop(1, 1).due(2), 11, 2, 12, 2, 13, 3);
        behind(grid(), run -> run.drop(1, 101).due(20), pairs(280, i -> pair(i % 20 + 1, i / 20 + 102)));
        behind(grid(), run -> run.drop(1, 115).due(20), pairs(280, i -> pair(i % 20 + 1, i / 20 + 101)));
        behind(grid(), run -> run.drop(0, 1).due(15), pairs(285, i -> pair(i % 19 + 2, i / 19 + 101)));
        behind(grid(), run -> run.drop(0, 20).due(15), pairs(285, i -> pair(i % 19 + 1, i / 19 + 101)));
    }

    // ---- promise 8

    private static void renameOfPairsThatAreLinkedSoAlready() {
        int[] some = {1, 11, 2, 11, 1, 12, 3, 14, 1, 13, 2, 13};
        behind(some, run -> run.rename(0, 1, 2).due(1), 2, 11, 3, 14, 2, 13, 2, 12);
        behind(changedAbout(some), run -> run.rename(1, 1, 2).due(1), 11, 2, 14, 3, 13, 2, 12, 2);
        behind(some, run -> run.rename(0, 2, 1).due(0), 1, 11, 1, 12, 3, 14, 1, 13);
        behind(changedAbout(some), run -> run.rename(1, 2, 1).due(0), 11, 1, 12, 1, 14, 3, 13, 1);
        behind(new int[] {1, 5, 2, 5}, run -> run.rename(0, 1, 2).due(0), 2, 5);
        behind(new int[] {1, 5, 2, 5}, run -> run.rename(0, 2, 1).due(0), 1, 5);
    }

    private static void renameOfTheOthersInTheirOrder() {
        behind(FEW, run -> run.rename(0, 1, 3).due(1), 2, 11, 2, 12, 3, 13, 3, 11);
        behind(FEW, run -> run.rename(0, 1, 4).due(2), 2, 11, 2, 12, 3, 13, 4, 11, 4, 13);
        behind(FEW, run -> run.rename(1, 11, 4).due(2), 2, 12, 3, 13, 1, 13, 1, 4, 2, 4);
        behind(FEW, run -> run.rename(1, 13, 11).due(1), 1, 11, 2, 11, 2, 12, 3, 11);
        behind(new int[] {1, 5}, run -> run.rename(0, 1, 2).due(1), 2, 5);
    }

    private static void renameWithNoSuchSide() {
        for (int side : NO_SIDES) {
            new Run().rename(side, 1, 2).due(NONE);
            nothingDoneBy(FEW, run -> {
                run.rename(side, 1, 2).due(NONE);
                run.rename(side, 11, 12).due(NONE);
                run.rename(side, 1, 1).due(NONE);
                run.rename(side, 99999, 1).due(NONE);
            });
        }
    }

    private static void renameToTheSameNumber() {
        for (int side = 0; side <= 1; side++) {
            int on = side;
            new Run().rename(on, 1, 1).due(NONE);
            nothingDoneBy(FEW, run -> {
                run.rename(on, 1, 1).due(NONE);
                run.rename(on, 11, 11).due(NONE);
                run.rename(on, 99999, 99999).due(NONE);
                run.rename(on, MIN, MIN).due(NONE);
                run.rename(on, MAX, MAX).due(NONE);
            });
            nothingDoneBy(star(on), run -> run.rename(on, 7, 7).due(NONE));
        }
    }

    private static void renameOfNumberThatNoPairHas() {
        for (int[] shape : shapes()) {
            nothingDoneBy(shape, run -> {
                run.rename(0, 99999, 1).due(0);
                run.rename(1, 99999, 7).due(0);
                run.rename(0, 99999, 99998).due(0);
            });
        }
        nothingDoneBy(FEW, run -> run.rename(0, 11, 1).due(0));
        nothingDoneBy(FEW, run -> run.rename(1, 1, 11).due(0));
    }

    private static void renameWith300() {
        behind(star(0), run -> run.rename(0, 7, 8).due(300), pairs(300, i -> pair(8, i + 1)));
        behind(star(1), run -> run.rename(1, 7, 8).due(300), pairs(300, i -> pair(i + 1, 8)));
        int[] apart = apart();
        behind(apart, run -> run.rename(0, 1, 2).due(1), with(without(apart, 0), 2, 1000));
        behind(apart, run -> run.rename(1, 1000, 5).due(1), with(without(apart, 0), 1, 5));
        behind(apart, run -> run.rename(0, 300, 5).due(1), with(without(apart, 299), 5, 701));
        behind(star(0), run -> run.rename(1, 1, 300).due(0), without(star(0), 0));
        int[] moved = pairs(20, i -> pair(i + 1, 200));
        int[] left = pairs(280, i -> pair(i % 20 + 1, i / 20 + 102));
        behind(grid(), run -> run.rename(1, 101, 200).due(20), with(left, moved));
        behind(grid(), run -> run.rename(1, 101, 115).due(0), left);
        behind(grid(), run -> {
            run.rename(1, 101, 200).due(20);
            run.link(1, 101).due(FULL);
            run.link(1, 200).due(NONE);
        }, with(left, moved));
    }

    // ---- promise 9

    private static void atBelow0AndBeyondTheNumberOfPairs() {
        for (int[] shape : shapes()) {
            int many = shape.length / 2;
            Run run = linked(shape);
            for (int place : new int[] {-1, -2, many, many + 1, 300, 301, MIN, MIN + 1, MAX - 1, MAX}) {
                run.at(place, 0).due(0);
                run.at(place, 1).due(0);
            }
        }
        Run run = linked(FEW);
        run.unlink(2, 12).due(4);
        run.at(4, 0).due(0);
        run.at(4, 1).due(0);
        run.clear().due(4);
        run.at(0, 0).due(0);
        run.at(0, 1).due(0);
    }

    private static void atWithNoSuchSide() {
        for (int[] shape : shapes()) {
            Run run = linked(shape);
            for (int side : NO_SIDES) {
                run.at(0, side).due(0);
                run.at(shape.length / 2 - 1, side).due(0);
                run.at(shape.length / 2, side).due(0);
            }
        }
    }

    private static void atFirstAndLastPlace() {
        Run one = linked(5, 6);
        one.at(0, 0).due(5);
        one.at(0, 1).due(6);
        Run run = linked(grid());
        run.at(0, 0).due(1);
        run.at(0, 1).due(101);
        run.at(299, 0).due(20);
        run.at(299, 1).due(115);
        run.unlink(1, 101).due(299);
        run.at(0, 0).due(2);
        run.at(298, 0).due(20);
        run.at(299, 0).due(0);
        run.at(299, 1).due(0);
    }

    // ---- promise 10

    private static void countOfOthers() {
        for (int[] shape : shapes()) {
            Run run = linked(shape);
            for (int what : new int[] {-1, -2, 5, 6, 300, MIN, MIN + 1, MAX - 1, MAX}) {
                run.count(what).due(NONE);
            }
        }
    }

    private static void countsWithNoPairs() {
        new Run().counts(0, 0, 0, 0, 0);
        Run unlinked = linked(5, 6);
        unlinked.unlink(5, 6).due(0);
        unlinked.counts(0, 0, 0, 0, 0);
        Run dropped = linked(star(1));
        dropped.drop(1, 7).due(300);
        dropped.counts(0, 0, 0, 0, 0);
        Run cleared = linked(grid());
        cleared.counts(300, 20, 15, 15, 1);
        cleared.clear().due(300);
        cleared.counts(0, 0, 0, 0, 0);
    }

    private static void countsWithOnePair() {
        linked(5, 6).counts(1, 1, 1, 1, 1);
        linked(0, 0).counts(1, 1, 1, 1, 1);
    }

    private static void countsWith300() {
        linked(grid()).counts(300, 20, 15, 15, 1);
        linked(star(0)).counts(300, 1, 300, 1, 1);
        linked(star(1)).counts(300, 300, 1, 1, 1);
        linked(apart()).counts(300, 300, 300, 300, 300);
        for (int[] row : List.of(row(), backwards(row()), secondsFirst(row()))) {
            linked(row).counts(300, 150, 151, 150, 1);
            linked(changedAbout(row)).counts(300, 151, 150, 150, 1);
        }
        linked(pairs(300, i -> pair(i / 3, i % 3))).counts(300, 100, 3, 3, 1);
        linked(pairs(300, i -> pair(i / 2, i))).counts(300, 150, 300, 150, 150);
    }

    /** 149 pairs that come first have to give way, one after the other, before the last can come in. */
    private static void largestMatchingByTheLongestTurn() {
        int[] first = pairs(149, i -> pair(i + 1, i + 1));
        int[] instead = pairs(149, i -> pair(i + 1, i + 2));
        Run run = linked(with(with(first, instead), 0, 1, MIN, MAX));
        run.counts(300, 151, 151, 151, 2);
        run.unlink(149, 150).due(299);
        run.counts(299, 151, 150, 150, 2);
        Run backwards = linked(with(backwards(with(instead, first)), MIN, MAX, 0, 1));
        backwards.counts(300, 151, 151, 151, 2);
    }

    /** 100 parts of three pairs, of which the first has to give way to the other two. */
    private static void largestMatchingByTheMostTurns() {
        int[][] three = {pair(0, 0), pair(0, 1), pair(1, 0)};
        Run run = linked(pairs(300, i -> pair(i / 3 * 2 + three[i % 3][0], i / 3 * 2 + three[i % 3][1])));
        run.counts(300, 200, 200, 200, 100);
        run.unlink(0, 1).due(299);
        run.counts(299, 200, 199, 199, 100);
    }

    private static void partsOfARing() {
        Run even = linked(ring());
        even.counts(300, 150, 150, 150, 1);
        even.unlink(0, 0).due(299);
        even.counts(299, 150, 150, 150, 1);
        even.unlink(75, 75).due(298);
        even.counts(298, 150, 150, 150, 2);
        // Cut here, one half has a left more than rights, and the other a right more than lefts.
        Run odd = linked(ring());
        odd.unlink(0, 0).due(299);
        odd.unlink(74, 75).due(298);
        odd.counts(298, 150, 150, 149, 2);
    }

    // ---- promise 11

    private static void partOfNumberThatNoneHas() {
        for (int[] shape : shapes()) {
            Run run = linked(shape);
            run.part(0, 99999).due(0);
            run.part(1, 99999).due(0);
        }
        Run run = linked(FEW);
        run.part(0, 11).due(0);
        run.part(1, 1).due(0);
        run.part(0, 0).due(0);
        run.drop(0, 3).due(1);
        run.part(0, 3).due(0);
    }

    private static void partWithNoSuchSide() {
        for (int[] shape : shapes()) {
            Run run = linked(shape);
            for (int side : NO_SIDES) {
                run.part(side, 1).due(0);
                run.part(side, 7).due(0);
                run.part(side, 101).due(0);
            }
        }
    }

    private static void partOfOnePair() {
        linked(5, 6).part(0, 5).due(1);
        linked(5, 6).part(1, 6).due(1);
        Run run = linked(with(FEW, 5, 6));
        run.part(0, 5).due(1);
        run.part(1, 6).due(1);
        run.part(0, 1).due(5);
        Run apart = linked(apart());
        apart.part(0, 1).due(1);
        apart.part(0, 300).due(1);
        apart.part(1, 1000).due(1);
        apart.part(1, 701).due(1);
    }

    private static void partOfAll300() {
        Run grid = linked(grid());
        grid.part(0, 1).due(300);
        grid.part(0, 20).due(300);
        grid.part(1, 101).due(300);
        grid.part(1, 115).due(300);
        for (int side = 0; side <= 1; side++) {
            Run star = linked(star(side));
            star.part(side, 7).due(300);
            star.part(1 - side, 1).due(300);
            star.part(1 - side, 300).due(300);
        }
        for (int[] all : List.of(row(), backwards(row()), secondsFirst(row()))) {
            Run row = linked(all);
            row.part(1, 0).due(300);
            row.part(1, 150).due(300);
            row.part(0, 75).due(300);
            row.unlink(75, 75).due(299);
            row.part(1, 0).due(150);
            row.part(1, 75).due(150);
            row.part(0, 75).due(149);
            row.part(1, 150).due(149);
        }
    }

    // ---- promise 12

    private static void wayWithNoSuchRow() {
        new Run().way(0, 1, 1, 1).due(0);
        Run run = linked(with(FEW, 5, 15, 6, 15));
        run.way(0, 1, 0, 5).due(0);
        run.way(0, 5, 0, 1).due(0);
        run.way(1, 15, 1, 11).due(0);
        run.way(0, 99999, 0, 1).due(0);
        run.way(0, 1, 0, 99999).due(0);
        run.way(0, 99999, 1, 99999).due(0);
        run.way(0, 11, 0, 1).due(0);
        run.way(0, 1, 1, 1).due(0);
        run.unlink(2, 11).due(6);
        run.way(0, 1, 0, 2).due(0);
        Run apart = linked(apart());
        apart.way(0, 1, 0, 300).due(0);
        apart.way(0, 1, 1, 999).due(0);
    }

    private static void wayWithNoSuchSide() {
        for (int side : NO_SIDES) {
            Run run = linked(FEW);
            run.way(side, 1, 0, 1).due(0);
            run.way(side, 11, 1, 11).due(0);
            run.way(0, 1, side, 1).due(0);
            run.way(1, 11, side, 11).due(0);
            run.way(side, 1, side, 1).due(0);
            run.way(side, 99999, 0, 1).due(0);
            run.way(0, 99999, side, 1).due(0);
        }
    }

    private static void wayOfOnePair() {
        Run one = linked(5, 6);
        one.way(0, 5, 1, 6).due(1);
        one.way(1, 6, 0, 5).due(1);
        Run run = linked(FEW);
        for (int i = 0; i < FEW.length; i += 2) {
            run.way(0, FEW[i], 1, FEW[i + 1]).due(1);
            run.way(1, FEW[i + 1], 0, FEW[i]).due(1);
        }
        Run grid = linked(grid());
        grid.way(0, 1, 1, 101).due(1);
        grid.way(0, 20, 1, 115).due(1);
    }

    private static void wayOfTheSameNumberOnTheSameSide() {
        Run one = linked(5, 6);
        one.way(0, 5, 0, 5).due(1);
        one.way(1, 6, 1, 6).due(1);
        one.way(0, 6, 0, 6).due(0);
        one.way(1, 5, 1, 5).due(0);
        Run star = linked(star(0));
        star.way(0, 7, 0, 7).due(1);
        star.way(1, 300, 1, 300).due(1);
    }

    private static void wayOfTheSameNumberOnTheOtherSide() {
        linked(5, 5).way(0, 5, 1, 5).due(1);
        linked(5, 6, 7, 5).way(0, 5, 1, 5).due(0);
        linked(5, 6, 7, 5, 7, 6).way(0, 5, 1, 5).due(3);
        linked(5, 6, 7, 5, 7, 6).way(1, 5, 0, 5).due(3);
    }

    private static void wayOfTwoPairs() {
        Run run = linked(FEW);
        run.way(0, 1, 0, 2).due(2);
        run.way(1, 11, 1, 12).due(2);
        run.way(1, 11, 1, 13).due(2);
        Run star = linked(star(1));
        star.way(0, 1, 0, 300).due(2);
        star.way(0, 300, 0, 1).due(2);
    }

    private static void theLongestRow() {
        for (int[] all : List.of(row(), backwards(row()), secondsFirst(row()))) {
            Run run = linked(all);
            run.way(1, 0, 1, 150).due(300);
            run.way(1, 150, 1, 0).due(300);
            run.way(1, 0, 0, 149).due(299);
            run.way(0, 0, 1, 150).due(299);
            run.way(0, 0, 0, 149).due(298);
            run.way(1, 0, 0, 0).due(1);
            run.way(1, 0, 1, 1).due(2);
            run.way(1, 150, 0, 149).due(1);
            Run about = linked(changedAbout(all));
            about.way(0, 0, 0, 150).due(300);
            about.way(0, 150, 0, 0).due(300);
            about.way(0, 150, 1, 0).due(299);
        }
    }

    private static void theLeastOfTwoRows() {
        Run ring = linked(ring());
        ring.way(0, 0, 0, 74).due(148);
        ring.way(0, 0, 0, 75).due(150);
        ring.way(0, 0, 0, 76).due(148);
        ring.way(0, 0, 1, 75).due(149);
        ring.way(0, 0, 1, 76).due(149);
        ring.way(0, 0, 1, 0).due(1);
        ring.way(1, 0, 1, 149).due(2);
        ring.unlink(149, 0).due(299);
        ring.way(1, 0, 1, 149).due(298);
        ring.way(1, 0, 0, 149).due(299);
    }

    // ---- promise 13

    private static void clearOfNoPairs() {
        nothingDoneBy(new int[] {}, run -> run.clear().due(0));
        behind(FEW, run -> {
            run.clear().due(5);
            run.clear().due(0);
        });
        behind(new int[] {5, 6}, run -> {
            run.unlink(5, 6).due(0);
            run.clear().due(0);
        });
        behind(new int[] {5, 6}, run -> run.clear().due(1));
    }

    private static void clearOf300() {
        for (int[] all : List.of(grid(), star(0), star(1), apart(), row())) {
            behind(all, run -> run.clear().due(300));
            Run run = linked(all);
            run.link(-5, -6).due(FULL);
            run.clear().due(300);
            run.counts(0, 0, 0, 0, 0);
            run.place(all[0], all[1]).due(NONE);
            run.degree(0, all[0]).due(0);
            run.other(0, all[0], 0).due(0);
            run.part(1, all[1]).due(0);
            run.way(0, all[0], 1, all[1]).due(0);
            run.unlink(all[0], all[1]).due(NONE);
            run.drop(0, all[0]).due(0);
            run.rename(1, all[1], 5555).due(0);
        }
    }

    private static void linkingAgainBehindClear() {
        int[] back = backwards(FEW);
        behind(FEW, run -> {
            run.clear().due(5);
            for (int i = 0; i < back.length; i += 2) {
                run.link(back[i], back[i + 1]).due(i / 2 + 1);
            }
        }, back);
        behind(grid(), run -> {
            run.clear().due(300);
            run.link(1, 101).due(1);
            run.link(20, 101).due(2);
            run.link(1, 101).due(NONE);
        }, 1, 101, 20, 101);
        Run twice = linked(pairs(150, i -> pair(i, 1)));
        twice.unlink(0, 1).due(149);
        twice.clear().due(149);
        for (int i = 0; i < 300; i++) {
            twice.link(1, i).due(i + 1);
        }
        twice.link(2, 0).due(FULL);
        twice.counts(300, 1, 300, 1, 1);
        twice.at(299, 1).due(299);
        twice.clear().due(300);
    }

    // ---- promise 14

    private static void checkOnNoPairsAndOn300() {
        new Run().check().due(1);
        for (int[] shape : shapes()) {
            linked(shape).check().due(1);
        }
    }

    private static void checkBehindEachLink() {
        Run run = new Run();
        int[] grid = grid();
        for (int i = 0; i < 250; i++) {
            run.link(grid[2 * i], grid[2 * i + 1]).due(i + 1);
            run.check().due(1);
        }
        checkBehind(FEW, r -> r.link(1, 11).due(NONE));
        checkBehind(grid, r -> r.link(1, 101).due(NONE));
        checkBehind(grid, r -> r.link(1, 100).due(FULL));
    }

    private static void checkBehind(int[] before, Consumer<Run> call) {
        Run run = linked(before);
        call.accept(run);
        run.check().due(1);
    }

    private static void checkBehindEachUnlink() {
        int[] grid = grid();
        for (int i = 0; i < 300; i += 23) {
            int at = i;
            checkBehind(grid, run -> run.unlink(grid[2 * at], grid[2 * at + 1]).due(299));
        }
        Run run = linked(pairs(170, i -> pair(i % 13, i / 13)));
        for (int i = 0; i < 170; i++) {
            int at = i * 7 % 170;
            run.unlink(at % 13, at / 13).due(169 - i);
            run.check().due(1);
        }
        checkBehind(FEW, r -> r.unlink(11, 1).due(NONE));
        checkBehind(new int[] {}, r -> r.unlink(1, 11).due(NONE));
    }

    private static void checkBehindEachDrop() {
        for (int side = 0; side <= 1; side++) {
            int on = side;
            Run run = linked(grid());
            int many = side == 0 ? 20 : 15;
            for (int i = 0; i < many; i++) {
                int v = i * 7 % many + (side == 0 ? 1 : 101);
                run.drop(on, v).due(300 / many);
                run.check().due(1);
            }
            checkBehind(star(on), r -> r.drop(on, 7).due(300));
            checkBehind(FEW, r -> r.drop(on, 99999).due(0));
        }
        checkBehind(FEW, r -> r.drop(2, 1).due(NONE));
    }

    private static void checkBehindEachRename() {
        for (int side = 0; side <= 1; side++) {
            int on = side;
            Run run = linked(grid());
            int many = side == 0 ? 20 : 15;
            int from = side == 0 ? 1 : 101;
            for (int i = 0; i < many; i++) {
                run.rename(on, from + i, 500 + i).due(300 / many);
                run.check().due(1);
            }
            for (int i = 1; i < many; i++) {
                run.rename(on, 500 + i - 1, 500 + i).due(0);
                run.check().due(1);
            }
            checkBehind(star(on), r -> r.rename(on, 7, 8).due(300));
            checkBehind(FEW, r -> r.rename(on, 1, 1).due(NONE));
        }
        checkBehind(FEW, r -> r.rename(0, 1, 3).due(1));
        checkBehind(FEW, r -> r.rename(2, 1, 3).due(NONE));
    }

    private static void checkBehindClear() {
        for (int[] shape : shapes()) {
            checkBehind(shape, run -> run.clear().due(shape.length / 2));
            checkBehind(shape, run -> {
                run.clear().due(shape.length / 2);
                run.link(1, 11).due(1);
                run.link(1, 12).due(2);
            });
        }
    }

    // ---- 512 calls on one object

    private static void dueCalls(Run run, int calls) {
        new Answer("the number of calls that the test made", run.calls).due(calls);
    }

    private static void each512thCall() {
        List<Consumer<Run>> calls = List.of(
                run -> run.link(1, 101).due(NONE), run -> run.link(1, 100).due(FULL),
                run -> run.unlink(20, 115).due(299), run -> run.place(20, 115).due(299),
                run -> run.degree(1, 115).due(20), run -> run.other(0, 20, 14).due(115),
                run -> run.drop(0, 20).due(15), run -> run.rename(1, 115, 116).due(20),
                run -> run.at(299, 1).due(115), run -> run.count(0).due(300),
                run -> run.count(1).due(20), run -> run.count(2).due(15),
                run -> run.count(3).due(15), run -> run.count(4).due(1),
                run -> run.part(0, 1).due(300), run -> run.way(0, 1, 0, 20).due(2),
                run -> run.clear().due(300), run -> run.check().due(1));
        int[] grid = grid();
        for (Consumer<Run> call : calls) {
            Run run = linked(grid);
            for (int i = 0; i < 211; i++) {
                run.place(grid[2 * i], grid[2 * i + 1]).due(i);
            }
            call.accept(run);
            dueCalls(run, 512);
        }
    }

    private static void callsThatAre512Links() {
        Run run = linked(grid());
        for (int i = 0; i < 212; i++) {
            run.link(i, 99).due(FULL);
        }
        dueCalls(run, 512);
    }

    private static void callsThatAre512OfLinkAndUnlink() {
        Run run = new Run();
        for (int i = 0; i < 128; i++) {
            run.link(i, 1).due(1);
            run.link(i, 2).due(2);
            run.unlink(i, 1).due(1);
            run.unlink(i, 2).due(0);
        }
        dueCalls(run, 512);
    }

    private static void callsThatAre512OfLinkAndDrop() {
        Run run = new Run();
        for (int i = 0; i < 170; i++) {
            run.link(i, 1).due(i == 0 ? 1 : 2);
            run.link(i, 2).due(i == 0 ? 2 : 3);
            run.drop(1, i % 2 + 1).due(i == 0 ? 1 : 2);
        }
        run.check().due(1);
        run.place(169, 1).due(0);
        dueCalls(run, 512);
    }

    private static void callsThatAre512OfRename() {
        Run one = linked(5, 6);
        for (int i = 0; i < 511; i++) {
            one.rename(0, 5 + i, 6 + i).due(1);
        }
        dueCalls(one, 512);
        Run all = linked(star(0));
        for (int i = 0; i < 210; i++) {
            all.rename(0, 7 + i, 8 + i).due(300);
        }
        all.place(217, 300).due(299);
        all.check().due(1);
        dueCalls(all, 512);
    }

    private static void callsThatAre512OfClear() {
        Run run = new Run();
        for (int i = 0; i < 128; i++) {
            run.link(1, i).due(1);
            run.link(2, i).due(2);
            run.clear().due(2);
            run.clear().due(0);
        }
        dueCalls(run, 512);
    }

    private static void callsThatAre512Searches() {
        Run run = linked(secondsFirst(row()));
        for (int i = 0; i < 53; i++) {
            run.count(3).due(150);
            run.count(4).due(1);
            run.way(1, 0, 1, i + 1).due(2 * i + 2);
            run.part(0, i).due(300);
        }
        dueCalls(run, 512);
    }

    // ---- all of them

    private static void holds(String sentence, Runnable how) {
        test = sentence;
        tests++;
        try {
            how.run();
        } catch (RuntimeException thrown) {
            tell("a call threw " + thrown);
        }
    }

    private static void termsAndConstants() {
        holds("Terms: NONE = -1, FULL = -2", PairThreadsBoundaries::constants);
        holds("Terms: any ints", PairThreadsBoundaries::anyInts);
        holds("Terms: the smallest and the largest int", PairThreadsBoundaries::smallestAndLargestInt);
        holds("Terms: equal ints, nothing in common", PairThreadsBoundaries::equalIntsHaveNothingInCommon);
        holds("Terms: at most 300 different pairs", PairThreadsBoundaries::atMost300DifferentPairs);
        holds("Terms: at most 300, room used again", PairThreadsBoundaries::roomIsUsedAgain);
        holds("Terms: linked again is the last", PairThreadsBoundaries::linkedAgainIsTheLast);
    }

    private static void promises1To4() {
        holds("1: no pairs", PairThreadsBoundaries::newObject);
        holds("1: no pairs, no such side", PairThreadsBoundaries::newObjectAndNoSuchSide);
        holds("1: no pairs, beside others", PairThreadsBoundaries::newObjectBesideOthers);
        holds("2: NONE when it is linked", PairThreadsBoundaries::linkOfLinkedWithRoom);
        holds("2: NONE when it is linked, with 300", PairThreadsBoundaries::linkOfLinkedWith300);
        holds("2: its numbers are linked, it is not", PairThreadsBoundaries::linkOfOtherPairsOfLinkedNumbers);
        holds("2: the 300th, and FULL", PairThreadsBoundaries::the300thPairAndOneMore);
        holds("2: FULL, and room again", PairThreadsBoundaries::linkBehindFull);
        holds("3: NONE, no pairs", PairThreadsBoundaries::unlinkOnNoPairs);
        holds("3: NONE, others", PairThreadsBoundaries::unlinkOnOthers);
        holds("3: NONE, changed about", PairThreadsBoundaries::unlinkOfLeftAndRightChangedAbout);
        holds("3: at each place", PairThreadsBoundaries::unlinkOfEachPlace);
        holds("4: NONE, no pairs", PairThreadsBoundaries::placeOnNoPairs);
        holds("4: NONE, others", PairThreadsBoundaries::placeOnOthers);
        holds("4: NONE, changed about", PairThreadsBoundaries::placeOfLeftAndRightChangedAbout);
        holds("4: from 0 to the last", PairThreadsBoundaries::firstAndLastPlaceOfAPair);
    }

    private static void promises5To8() {
        holds("5: NONE, no such side", PairThreadsBoundaries::degreeWithNoSuchSide);
        holds("5: a number that no pair has", PairThreadsBoundaries::degreeOfNumberThatNoPairHas);
        holds("5: the smallest and the largest degree", PairThreadsBoundaries::degreeOfOneAndOf300);
        holds("6: 0, i below 0 and beyond", PairThreadsBoundaries::otherBelow0AndBeyondTheDegree);
        holds("6: 0, no such side", PairThreadsBoundaries::otherWithNoSuchSide);
        holds("6: 0, a number that no pair has", PairThreadsBoundaries::otherOfNumberThatNoPairHas);
        holds("6: the first and the last i", PairThreadsBoundaries::firstAndLastOther);
        holds("7: NONE, no such side", PairThreadsBoundaries::dropWithNoSuchSide);
        holds("7: a number that no pair has", PairThreadsBoundaries::dropOfNumberThatNoPairHas);
        holds("7: a number that all pairs have", PairThreadsBoundaries::dropOfNumberThatAllPairsHave);
        holds("7: of the first and the last pair", PairThreadsBoundaries::dropOfNumberOfTheFirstAndTheLastPair);
        holds("8: linked so already", PairThreadsBoundaries::renameOfPairsThatAreLinkedSoAlready);
        holds("8: the others, in their order", PairThreadsBoundaries::renameOfTheOthersInTheirOrder);
        holds("8: NONE, no such side", PairThreadsBoundaries::renameWithNoSuchSide);
        holds("8: NONE, both the same", PairThreadsBoundaries::renameToTheSameNumber);
        holds("8: a number that no pair has", PairThreadsBoundaries::renameOfNumberThatNoPairHas);
        holds("8: with 300", PairThreadsBoundaries::renameWith300);
    }

    private static void promises9To12() {
        holds("9: 0, below 0 and beyond", PairThreadsBoundaries::atBelow0AndBeyondTheNumberOfPairs);
        holds("9: 0, no such side", PairThreadsBoundaries::atWithNoSuchSide);
        holds("9: the first and the last place", PairThreadsBoundaries::atFirstAndLastPlace);
        holds("10: NONE for others", PairThreadsBoundaries::countOfOthers);
        holds("10: no pairs", PairThreadsBoundaries::countsWithNoPairs);
        holds("10: one pair", PairThreadsBoundaries::countsWithOnePair);
        holds("10: 300", PairThreadsBoundaries::countsWith300);
        holds("10: 300, the longest turn", PairThreadsBoundaries::largestMatchingByTheLongestTurn);
        holds("10: 300, the most turns", PairThreadsBoundaries::largestMatchingByTheMostTurns);
        holds("10: 300, a ring", PairThreadsBoundaries::partsOfARing);
        holds("11: 0, none has it", PairThreadsBoundaries::partOfNumberThatNoneHas);
        holds("11: 0, no such side", PairThreadsBoundaries::partWithNoSuchSide);
        holds("11: one pair", PairThreadsBoundaries::partOfOnePair);
        holds("11: all 300", PairThreadsBoundaries::partOfAll300);
        holds("12: 0, no such row", PairThreadsBoundaries::wayWithNoSuchRow);
        holds("12: no such side", PairThreadsBoundaries::wayWithNoSuchSide);
        holds("12: one pair", PairThreadsBoundaries::wayOfOnePair);
        holds("12: the same number and side", PairThreadsBoundaries::wayOfTheSameNumberOnTheSameSide);
        holds("12: the same number, other side", PairThreadsBoundaries::wayOfTheSameNumberOnTheOtherSide);
        holds("12: two pairs", PairThreadsBoundaries::wayOfTwoPairs);
        holds("12: the longest row", PairThreadsBoundaries::theLongestRow);
        holds("12: the least number", PairThreadsBoundaries::theLeastOfTwoRows);
    }

    private static void promises13And14() {
        holds("13: no pairs", PairThreadsBoundaries::clearOfNoPairs);
        holds("13: 300", PairThreadsBoundaries::clearOf300);
        holds("13: linking again", PairThreadsBoundaries::linkingAgainBehindClear);
        holds("14: no pairs, and 300", PairThreadsBoundaries::checkOnNoPairsAndOn300);
        holds("14: behind link", PairThreadsBoundaries::checkBehindEachLink);
        holds("14: behind unlink", PairThreadsBoundaries::checkBehindEachUnlink);
        holds("14: behind drop", PairThreadsBoundaries::checkBehindEachDrop);
        holds("14: behind rename", PairThreadsBoundaries::checkBehindEachRename);
        holds("14: behind clear", PairThreadsBoundaries::checkBehindClear);
    }

    private static void callsOnOneObject() {
        holds("512 calls: each as the last", PairThreadsBoundaries::each512thCall);
        holds("512 calls: link", PairThreadsBoundaries::callsThatAre512Links);
        holds("512 calls: link and unlink", PairThreadsBoundaries::callsThatAre512OfLinkAndUnlink);
        holds("512 calls: link and drop", PairThreadsBoundaries::callsThatAre512OfLinkAndDrop);
        holds("512 calls: rename", PairThreadsBoundaries::callsThatAre512OfRename);
        holds("512 calls: clear", PairThreadsBoundaries::callsThatAre512OfClear);
        holds("512 calls: searches", PairThreadsBoundaries::callsThatAre512Searches);
    }

    public static void main(String[] args) {
        termsAndConstants();
        promises1To4();
        promises5To8();
        promises9To12();
        promises13And14();
        callsOnOneObject();
        System.out.println(wrong == 0 ? "all " + tests + " boundary cases hold" : wrong + " answers are not as due");
        if (wrong != 0) {
            System.exit(1);
        }
    }
}
