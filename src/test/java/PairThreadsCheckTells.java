import java.lang.reflect.Field;

// Promise 14: check answers 1 for sound threads, and would tell 0. No call of the face can break a
// thread, so this test does it behind the face, by the names of the fields that hold the state.
public final class PairThreadsCheckTells {
    private static int wrong = 0;

    private static void due(String what, int got, int want) {
        if (got != want) {
            wrong++;
            System.out.println(what + ": check() answered " + got + ", due is " + want);
        }
    }

    private static Object field(Object of, String name) throws ReflectiveOperationException {
        Field f = of.getClass().getDeclaredField(name);
        f.setAccessible(true);
        return f.get(of);
    }

    private static PairThreads sample() {
        PairThreads x = new PairThreads();
        x.link(9, 9);
        x.link(1, 1);
        x.link(2, 1);
        x.link(1, 2);
        x.link(2, 2);
        x.link(1, 3);
        x.link(2, 3);
        x.unlink(9, 9);
        return x;
    }

    /** Sets each tie of each linked pair to each slot that is not right, one at a time. */
    private static void breakTies(String row) throws ReflectiveOperationException {
        PairThreads x = sample();
        Object threads = field(x, "pairs");
        int[][] ties = (int[][]) field(threads, row);
        int[] order = (int[]) field(threads, "order");
        for (int side = 0; side < 2; side++) {
            for (int place = 0; place < x.count(0); place++) {
                int slot = order[place];
                int right = ties[side][slot];
                for (int false_ = -1; false_ < 8; false_++) {
                    ties[side][slot] = false_;
                    due(row + " of side " + side + ", slot " + slot + ", " + false_, x.check(), false_ == right ? 1 : 0);
                }
                ties[side][slot] = right;
            }
        }
        due(row + " mended", x.check(), 1);
    }

    private static void breakOrder() throws ReflectiveOperationException {
        PairThreads x = sample();
        int[] order = (int[]) field(field(x, "pairs"), "order");
        int first = order[0];
        order[0] = order[2];
        order[2] = first;
        due("two of a thread out of order", x.check(), 0);
    }

    private static void breakNumbers() throws ReflectiveOperationException {
        for (int side = 0; side < 2; side++) {
            PairThreads x = sample();
            Object threads = field(x, "pairs");
            int[][] number = (int[][]) field(threads, "number");
            int[] order = (int[]) field(threads, "order");
            number[side][order[1]] = 77;
            due("a pair in the thread of another number", x.check(), 0);
        }
    }

    public static void main(String[] args) throws ReflectiveOperationException {
        due("new", new PairThreads().check(), 1);
        due("sample", sample().check(), 1);
        breakTies("before");
        breakTies("after");
        breakOrder();
        breakNumbers();
        System.out.println(wrong == 0 ? "all answers are as due" : wrong + " answers are not as due");
        if (wrong != 0) {
            System.exit(1);
        }
    }
}
