import java.util.ArrayList;
import java.util.HashSet;
import java.util.List;
import java.util.Random;
import java.util.Set;

// Long runs of calls, the same each time, against a model that has nothing but a list of pairs.
public final class PairThreadsAgainstModel {
    /** Nothing is promised behind these. */
    private static final int CALLS = 512;
    /** How many of a run's calls look at what came of the others. */
    private static final int[] LOOKS = {0, 8, 40, 128, 200};
    private static final int[] EDGES = {Integer.MIN_VALUE, -300, -2, -1, 2, 5, 299, 300, 301, Integer.MAX_VALUE};
    private static int wrong = 0;

    private record Pair(int left, int right) {
        int on(int side) {
            return side == 0 ? left : right;
        }

        boolean touches(Pair o) {
            return left == o.left || right == o.right;
        }
    }

    private static final class Model {
        private final List<Pair> pairs = new ArrayList<>();

        private static boolean noSide(int side) {
            return side != 0 && side != 1;
        }

        private List<Pair> of(int side, int v) {
            List<Pair> own = new ArrayList<>();
            for (Pair p : pairs) {
                if (p.on(side) == v) {
                    own.add(p);
                }
            }
            return own;
        }

        int link(int left, int right) {
            if (pairs.contains(new Pair(left, right))) {
                return -1;
            }
            if (pairs.size() == 300) {
                return -2;
            }
            pairs.add(new Pair(left, right));
            return pairs.size();
        }

        int unlink(int left, int right) {
            return pairs.remove(new Pair(left, right)) ? pairs.size() : -1;
        }

        int place(int left, int right) {
            return pairs.indexOf(new Pair(left, right));
        }

        int degree(int side, int v) {
            return noSide(side) ? -1 : of(side, v).size();
        }

        int other(int side, int v, int i) {
            if (noSide(side) || i < 0 || i >= of(side, v).size()) {
                return 0;
            }
            return of(side, v).get(i).on(1 - side);
        }

        int drop(int side, int v) {
            if (noSide(side)) {
                return -1;
            }
            List<Pair> gone = of(side, v);
            pairs.removeAll(gone);
            return gone.size();
        }

        int rename(int side, int v, int to) {
            if (noSide(side) || v == to) {
                return -1;
            }
            List<Pair> anew = new ArrayList<>();
            for (Pair p : of(side, v)) {
                Pair q = side == 0 ? new Pair(to, p.right) : new Pair(p.left, to);
                if (!pairs.contains(q)) {
                    anew.add(q);
                }
            }
            pairs.removeAll(of(side, v));
            pairs.addAll(anew);
            return anew.size();
        }

        int at(int place, int side) {
            return noSide(side) || place < 0 || place >= pairs.size() ? 0 : pairs.get(place).on(side);
        }

        int count(int what) {
            switch (what) {
                case 0: return pairs.size();
                case 1: return numbers(0).size();
                case 2: return numbers(1).size();
                case 3: return matching();
                case 4: return parts();
                default: return -1;
            }
        }

        private Set<Integer> numbers(int side) {
            Set<Integer> all = new HashSet<>();
            for (Pair p : pairs) {
                all.add(p.on(side));
            }
            return all;
        }

        private int matching() {
            List<Pair> chosen = new ArrayList<>();
            int size = 0;
            for (int left : numbers(0)) {
                if (place(left, new HashSet<>(), chosen)) {
                    size++;
                }
            }
            return size;
        }

        private boolean place(int left, Set<Integer> tried, List<Pair> chosen) {
            for (Pair p : of(0, left)) {
                if (!tried.add(p.right)) {
                    continue;
                }
                Pair holder = null;
                for (Pair c : chosen) {
                    if (c.right == p.right) {
                        holder = c;
                    }
                }
                if (holder == null || place(holder.left, tried, chosen)) {
                    chosen.remove(holder);
                    chosen.add(p);
                    return true;
                }
            }
            return false;
        }

        /** Of each pair, how many pairs a row to it has; 0 when there is no row. */
        private int[] rows(List<Pair> starts) {
            int[] row = new int[pairs.size()];
            for (Pair p : starts) {
                row[pairs.indexOf(p)] = 1;
            }
            for (int far = 1; far <= pairs.size(); far++) {
                boolean further = false;
                for (int i = 0; i < row.length; i++) {
                    for (int j = 0; row[i] == far && j < row.length; j++) {
                        if (row[j] == 0 && pairs.get(i).touches(pairs.get(j))) {
                            row[j] = far + 1;
                            further = true;
                        }
                    }
                }
                if (!further) {
                    break;
                }
            }
            return row;
        }

        private int parts() {
            Set<Pair> left = new HashSet<>(pairs);
            int parts = 0;
            for (Pair p : pairs) {
                if (left.contains(p)) {
                    parts++;
                    int[] row = rows(List.of(p));
                    for (int i = 0; i < row.length; i++) {
                        if (row[i] > 0) {
                            left.remove(pairs.get(i));
                        }
                    }
                }
            }
            return parts;
        }

        int part(int side, int v) {
            if (noSide(side)) {
                return 0;
            }
            int size = 0;
            for (int row : rows(of(side, v))) {
                size += row > 0 ? 1 : 0;
            }
            return size;
        }

        int way(int side, int v, int otherSide, int w) {
            if (noSide(side) || noSide(otherSide)) {
                return 0;
            }
            int[] row = rows(of(side, v));
            int least = 0;
            for (int i = 0; i < row.length; i++) {
                if (row[i] > 0 && pairs.get(i).on(otherSide) == w && (least == 0 || row[i] < least)) {
                    least = row[i];
                }
            }
            return least;
        }

        int clear() {
            int size = pairs.size();
            pairs.clear();
            return size;
        }
    }

    private static void due(int run, int call, String name, int got, int want) {
        if (got != want) {
            wrong++;
            System.out.println("run " + run + ", call " + call + ": " + name + " answered " + got + ", due is " + want);
        }
    }

    private static int number(Random random, int range) {
        int n = random.nextInt(range + 2);
        return n == range ? Integer.MIN_VALUE : n == range + 1 ? Integer.MAX_VALUE : n - range / 4;
    }

    private static int edge(Random random) {
        return EDGES[random.nextInt(EDGES.length)];
    }

    private static int side(Random random) {
        int n = random.nextInt(50);
        return n == 0 ? edge(random) : n == 1 ? random.nextInt(5) - 2 : random.nextInt(2);
    }

    /** A place, or which of a number's pairs: often within the pairs, often just at their edge. */
    private static int nth(Random random, int pairs) {
        switch (random.nextInt(8)) {
            case 0: return edge(random);
            case 1: return pairs + random.nextInt(3) - 1;
            case 2: case 3: return random.nextInt(pairs + 1);
            default: return random.nextInt(12) - 2;
        }
    }

    private static int what(Random random) {
        return random.nextInt(20) == 0 ? edge(random) : random.nextInt(7) - 1;
    }

    /** How often links come, and over how many numbers, makes runs sparse, dense or full. */
    private static void run(int run, int linksInTen, int range) {
        Random random = new Random(run);
        PairThreads x = new PairThreads();
        Model m = new Model();
        int looks = LOOKS[run % LOOKS.length];
        for (int call = 0; call < CALLS - looks; call++) {
            int v = number(random, range);
            int w = number(random, range);
            if (random.nextInt(10) < linksInTen) {
                due(run, call, "link(" + v + ", " + w + ")", x.link(v, w), m.link(v, w));
            } else {
                otherCall(run, call, random, x, m, v, w);
            }
        }
        look(run, x, m, looks);
    }

    private static void otherCall(int run, int call, Random random, PairThreads x, Model m, int v, int w) {
        int s = side(random);
        int t = side(random);
        int i = nth(random, m.pairs.size());
        int k = what(random);
        switch (random.nextInt(16)) {
            case 0: due(run, call, "unlink(" + v + ", " + w + ")", x.unlink(v, w), m.unlink(v, w)); break;
            case 1: due(run, call, "place(" + v + ", " + w + ")", x.place(v, w), m.place(v, w)); break;
            case 2: due(run, call, "degree(" + s + ", " + v + ")", x.degree(s, v), m.degree(s, v)); break;
            case 3: due(run, call, "other(" + s + ", " + v + ", " + i + ")", x.other(s, v, i), m.other(s, v, i)); break;
            case 4: due(run, call, "drop(" + s + ", " + v + ")", x.drop(s, v), m.drop(s, v)); break;
            case 5: case 6:
                due(run, call, "rename(" + s + ", " + v + ", " + w + ")", x.rename(s, v, w), m.rename(s, v, w)); break;
            case 7: case 8: case 9: due(run, call, "count(" + k + ")", x.count(k), m.count(k)); break;
            case 10: due(run, call, "part(" + s + ", " + v + ")", x.part(s, v), m.part(s, v)); break;
            case 11: case 12:
                due(run, call, "way(" + s + ", " + v + ", " + t + ", " + w + ")", x.way(s, v, t, w), m.way(s, v, t, w)); break;
            case 13: due(run, call, "check()", x.check(), 1); break;
            case 14: due(run, call, "at(" + i + ", " + s + ")", x.at(i, s), m.at(i, s)); break;
            default:
                if (random.nextInt(8) == 0) {
                    due(run, call, "clear()", x.clear(), m.clear());
                }
        }
    }

    /** The calls that are left go to the counts, and then to the pairs from the last place on, back. */
    private static void look(int run, PairThreads x, Model m, int looks) {
        int call = CALLS - looks;
        for (int k = 0; k <= 4 && call < CALLS; k++) {
            due(run, call, "count(" + k + ")", x.count(k), m.count(k));
            call++;
        }
        for (int i = m.pairs.size(); i >= 0 && call < CALLS - 2; i--) {
            due(run, call, "at(" + i + ", 0)", x.at(i, 0), m.at(i, 0));
            due(run, call + 1, "at(" + i + ", 1)", x.at(i, 1), m.at(i, 1));
            call += 2;
        }
        if (call < CALLS) {
            due(run, call, "check()", x.check(), 1);
        }
    }

    public static void main(String[] args) {
        int[] ranges = {3, 6, 12, 20, 40, 120};
        for (int run = 0; run < 360; run++) {
            run(run, 3 + run / 6 % 7, ranges[run % 6]);
        }
        System.out.println(wrong == 0 ? "all answers are as due" : wrong + " answers are not as due");
        if (wrong != 0) {
            System.exit(1);
        }
    }
}
