import java.util.ArrayList;
import java.util.List;
import java.util.function.ToIntFunction;

// "Nothing is promised beyond the answers and state changes described above": calls that only ask
// change nothing, objects do not change one another, and no call throws, whatever it is given.
public final class PairThreadsStateChanges {
    private static final int MIN = Integer.MIN_VALUE;
    private static final int MAX = Integer.MAX_VALUE;
    private static final int MOST_CALLS = 512;
    private static final int[] EDGES = {MIN, MIN + 1, -300, -2, -1, 0, 1, 2, 3, 4, 5, 7, 11, 299, 300, 301, MAX - 1, MAX};
    private static final int[] FEW_EDGES = {MIN, -1, 0, 1, 2, 7, 300, MAX};
    private static int wrong = 0;

    private static void tell(String what) {
        wrong++;
        System.out.println(what);
    }

    private record Call(String name, ToIntFunction<PairThreads> how) {
        int on(PairThreads x) {
            return how.applyAsInt(x);
        }
    }

    private static Call link(int left, int right) {
        return new Call("link(" + left + ", " + right + ")", x -> x.link(left, right));
    }

    // ---- calls that only ask

    private static void askOfOne(List<Call> calls, int side, int v) {
        calls.add(new Call("degree(" + side + ", " + v + ")", x -> x.degree(side, v)));
        calls.add(new Call("part(" + side + ", " + v + ")", x -> x.part(side, v)));
        for (int i = -1; i <= 3; i++) {
            int nth = i;
            calls.add(new Call("other(" + side + ", " + v + ", " + nth + ")", x -> x.other(side, v, nth)));
        }
    }

    private static void askOfTwo(List<Call> calls, int v, int w) {
        calls.add(new Call("place(" + v + ", " + w + ")", x -> x.place(v, w)));
        for (int sides = 0; sides < 4; sides++) {
            int from = sides / 2;
            int to = sides % 2;
            calls.add(new Call("way(" + from + ", " + v + ", " + to + ", " + w + ")", x -> x.way(from, v, to, w)));
        }
    }

    private static List<Call> asking() {
        List<Call> calls = new ArrayList<>();
        calls.add(new Call("check()", x -> x.check()));
        for (int what = -1; what <= 5; what++) {
            int of = what;
            calls.add(new Call("count(" + of + ")", x -> x.count(of)));
        }
        for (int place = -1; place <= 8; place++) {
            int at = place;
            calls.add(new Call("at(" + at + ", 0)", x -> x.at(at, 0)));
            calls.add(new Call("at(" + at + ", 1)", x -> x.at(at, 1)));
        }
        for (int v = 0; v <= 4; v++) {
            askOfOne(calls, -1, v);
            askOfOne(calls, 0, v);
            askOfOne(calls, 1, v);
            askOfOne(calls, 2, v);
            for (int w = 0; w <= 4; w++) {
                askOfTwo(calls, v, w);
            }
        }
        return calls;
    }

    /** What comes first in the largest matching and in the searches is made anew on the way. */
    private static PairThreads sample() {
        PairThreads x = new PairThreads();
        int[] numbers = {4, 4, 1, 1, 1, 2, 2, 1, 2, 3, 3, 2, 3, 3, 0, 1};
        for (int i = 0; i < numbers.length; i += 2) {
            x.link(numbers[i], numbers[i + 1]);
        }
        x.unlink(1, 1);
        x.rename(0, 0, 1);
        return x;
    }

    private static final int CALLS_OF_SAMPLE = 10;

    private static void askingTwiceAnswersTheSame() {
        for (Call call : asking()) {
            PairThreads x = sample();
            int first = call.on(x);
            int second = call.on(x);
            if (first != second) {
                tell(call.name + " answered " + first + ", and then " + second);
            }
        }
    }

    /** Each asking call, and behind it all of them: they answer as if it had not been. */
    private static void askingChangesNothing() {
        List<Call> all = asking();
        List<Integer> plain = answers(all);
        if (all.size() + 2 + CALLS_OF_SAMPLE > MOST_CALLS) {
            tell("the test itself makes more than 512 calls");
        }
        for (Call call : all) {
            PairThreads x = sample();
            call.on(x);
            for (int i = 0; i < all.size(); i++) {
                int got = all.get(i).on(x);
                if (got != plain.get(i)) {
                    tell(all.get(i).name + " behind " + call.name + " answered " + got + ", due is " + plain.get(i));
                }
            }
        }
    }

    /** Each call on an object of its own, so that none comes behind another. */
    private static List<Integer> answers(List<Call> calls) {
        List<Integer> answers = new ArrayList<>();
        for (Call call : calls) {
            answers.add(call.on(sample()));
        }
        return answers;
    }

    // ---- calls that change

    private static List<Call> changing() {
        return List.of(link(1, 2), link(4, 5), link(5, 4),
                new Call("unlink(2, 3)", x -> x.unlink(2, 3)),
                new Call("unlink(3, 1)", x -> x.unlink(3, 1)),
                new Call("drop(0, 2)", x -> x.drop(0, 2)),
                new Call("drop(1, 2)", x -> x.drop(1, 2)),
                new Call("drop(2, 1)", x -> x.drop(2, 1)),
                new Call("rename(0, 1, 2)", x -> x.rename(0, 1, 2)),
                new Call("rename(1, 2, 3)", x -> x.rename(1, 2, 3)),
                new Call("rename(1, 2, 9)", x -> x.rename(1, 2, 9)),
                new Call("clear()", PairThreads::clear));
    }

    /** While one object is changed, another that was made alike answers as before. */
    private static void objectsDoNotChangeOneAnother() {
        List<Call> all = asking();
        List<Integer> plain = answers(all);
        for (Call change : changing()) {
            PairThreads changed = sample();
            PairThreads kept = sample();
            for (int i = 0; i < all.size(); i++) {
                if (i % 8 == 0) {
                    change.on(changed);
                    changed.link(i, i);
                    changed.count(3);
                    changed.count(4);
                }
                int got = all.get(i).on(kept);
                if (got != plain.get(i)) {
                    tell(all.get(i).name + " answered " + got + ", due is " + plain.get(i)
                            + ", when another object had " + change.name);
                }
            }
        }
    }

    /** Asking on the way changes no answer of a change, and none behind it. */
    private static void changesAnswerTheSameBehindAsking() {
        List<Call> asking = asking();
        for (Call change : changing()) {
            PairThreads plain = sample();
            int due = change.on(plain);
            for (int i = 0; i < asking.size(); i += 3) {
                PairThreads asked = sample();
                asking.get(i).on(asked);
                int got = change.on(asked);
                if (got != due) {
                    tell(change.name + " behind " + asking.get(i).name + " answered " + got + ", due is " + due);
                }
                dueAlike(change.name + " behind " + asking.get(i).name, asked, change);
            }
        }
    }

    private static void dueAlike(String when, PairThreads x, Call change) {
        PairThreads y = sample();
        change.on(y);
        for (int i = 0; i <= 9; i++) {
            for (int side = 0; side <= 1; side++) {
                int got = x.at(i, side);
                int due = y.at(i, side);
                if (got != due) {
                    tell(when + ": at(" + i + ", " + side + ") answered " + got + ", due is " + due);
                }
            }
        }
        if (x.check() != 1) {
            tell(when + ": check() did not answer 1");
        }
    }

    // ---- any arguments, in any state

    private static void manyCalls(List<Call> calls, int a, int b) {
        calls.add(link(a, b));
        calls.add(new Call("unlink(" + a + ", " + b + ")", x -> x.unlink(a, b)));
        calls.add(new Call("place(" + a + ", " + b + ")", x -> x.place(a, b)));
        calls.add(new Call("degree(" + a + ", " + b + ")", x -> x.degree(a, b)));
        calls.add(new Call("drop(" + a + ", " + b + ")", x -> x.drop(a, b)));
        calls.add(new Call("at(" + a + ", " + b + ")", x -> x.at(a, b)));
        calls.add(new Call("part(" + a + ", " + b + ")", x -> x.part(a, b)));
        for (int c : FEW_EDGES) {
            calls.add(new Call("other(" + a + ", " + c + ", " + b + ")", x -> x.other(a, c, b)));
            calls.add(new Call("rename(" + a + ", " + c + ", " + b + ")", x -> x.rename(a, c, b)));
        }
    }

    private static List<Call> anyCalls() {
        List<Call> calls = new ArrayList<>();
        for (int a : EDGES) {
            calls.add(new Call("count(" + a + ")", x -> x.count(a)));
            for (int b : EDGES) {
                manyCalls(calls, a, b);
            }
        }
        for (int a : FEW_EDGES) {
            for (int b : FEW_EDGES) {
                for (int c : FEW_EDGES) {
                    for (int d : FEW_EDGES) {
                        calls.add(new Call("way(" + a + ", " + b + ", " + c + ", " + d + ")", x -> x.way(a, b, c, d)));
                    }
                }
            }
        }
        return calls;
    }

    private static PairThreads state(int which) {
        PairThreads x = which == 1 ? sample() : new PairThreads();
        for (int i = 0; which >= 2 && i < 300; i++) {
            x.link(which == 2 ? i : 7, which == 3 ? -i : 300 - i);
        }
        return x;
    }

    /** In each state all the calls, one behind the other, and a new object when one is used up. */
    private static void noCallThrows() {
        List<Call> calls = anyCalls();
        for (int which = 0; which <= 3; which++) {
            PairThreads x = state(which);
            for (int i = 0; i < calls.size(); i++) {
                if (i % 200 == 0) {
                    x = state(which);
                }
                dueNoThrow(calls.get(i), x, which);
            }
        }
    }

    private static void dueNoThrow(Call call, PairThreads x, int which) {
        try {
            call.on(x);
        } catch (RuntimeException thrown) {
            tell(call.name + " threw " + thrown + " in state " + which);
        }
    }

    public static void main(String[] args) {
        askingTwiceAnswersTheSame();
        askingChangesNothing();
        objectsDoNotChangeOneAnother();
        changesAnswerTheSameBehindAsking();
        noCallThrows();
        System.out.println(wrong == 0 ? "all answers are as due" : wrong + " answers are not as due");
        if (wrong != 0) {
            System.exit(1);
        }
    }
}
