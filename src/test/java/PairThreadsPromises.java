// Each promise by itself: ordinary inputs, the edges that the document names, and wrong inputs.
public final class PairThreadsPromises {
    private static final int MIN = Integer.MIN_VALUE;
    private static final int MAX = Integer.MAX_VALUE;
    private static final int[] NO_SIDES = {-1, 2, 3, MIN, MAX};
    private static int wrong = 0;

    private static void due(String call, int got, int want) {
        if (got != want) {
            wrong++;
            System.out.println(call + " answered " + got + ", due is " + want);
        }
    }

    /** Lefts and rights by turns. */
    private static PairThreads of(int... numbers) {
        PairThreads x = new PairThreads();
        for (int i = 0; i < numbers.length; i += 2) {
            due("of: link(" + numbers[i] + ", " + numbers[i + 1] + ")", x.link(numbers[i], numbers[i + 1]), i / 2 + 1);
        }
        return x;
    }

    private static void dueOrder(String when, PairThreads x, int... numbers) {
        int pairs = numbers.length / 2;
        due(when + ": count(0)", x.count(0), pairs);
        for (int i = 0; i < pairs; i++) {
            due(when + ": at(" + i + ", 0)", x.at(i, 0), numbers[2 * i]);
            due(when + ": at(" + i + ", 1)", x.at(i, 1), numbers[2 * i + 1]);
            due(when + ": place of pair " + i, x.place(numbers[2 * i], numbers[2 * i + 1]), i);
        }
        due(when + ": at behind the last", x.at(pairs, 0), 0);
        due(when + ": check()", x.check(), 1);
    }

    private static void dueThread(String when, PairThreads x, int side, int v, int... others) {
        due(when + ": degree(" + side + ", " + v + ")", x.degree(side, v), others.length);
        for (int i = 0; i < others.length; i++) {
            due(when + ": other(" + side + ", " + v + ", " + i + ")", x.other(side, v, i), others[i]);
        }
        due(when + ": other behind the last", x.other(side, v, others.length), 0);
    }

    private static PairThreads full() {
        PairThreads x = new PairThreads();
        for (int i = 0; i < 300; i++) {
            due("full: link " + i, x.link(i % 20 + 1, i / 20 + 1), i + 1);
        }
        return x;
    }

    private static void promise1New() {
        PairThreads x = new PairThreads();
        dueOrder("new", x);
        for (int what = 0; what <= 4; what++) {
            due("new: count(" + what + ")", x.count(what), 0);
        }
        due("new: place(0, 0)", x.place(0, 0), PairThreads.NONE);
        due("new: degree(0, 0)", x.degree(0, 0), 0);
        due("new: clear()", x.clear(), 0);
        due("NONE", PairThreads.NONE, -1);
        due("FULL", PairThreads.FULL, -2);
        PairThreads y = new PairThreads();
        x.link(1, 2);
        due("new: two objects have nothing in common", y.count(0), 0);
    }

    private static void promise2Link() {
        PairThreads x = of(5, 6, 6, 5, 5, 5, MIN, MAX, MAX, MIN, MIN, MIN, -1, 0, 0, -1);
        due("link: linked already", x.link(6, 5), PairThreads.NONE);
        due("link: linked already, smallest and largest", x.link(MAX, MIN), PairThreads.NONE);
        due("link: linked already, last", x.link(0, -1), PairThreads.NONE);
        dueOrder("link", x, 5, 6, 6, 5, 5, 5, MIN, MAX, MAX, MIN, MIN, MIN, -1, 0, 0, -1);
        dueThread("link", x, 0, 5, 6, 5);
        dueThread("link", x, 1, 5, 6, 5);
        dueThread("link", x, 1, MIN, MAX, MIN);
    }

    private static void promise2Full() {
        PairThreads x = full();
        due("full: one more", x.link(21, 1), PairThreads.FULL);
        due("full: one more, of any ints", x.link(MIN, MAX), PairThreads.FULL);
        due("full: linked already", x.link(20, 15), PairThreads.NONE);
        due("full: linked already, first", x.link(1, 1), PairThreads.NONE);
        due("full: count(0)", x.count(0), 300);
        due("full: place of the one refused", x.place(21, 1), PairThreads.NONE);
        due("full: degree(0, 21)", x.degree(0, 21), 0);
        due("full: degree(1, 1)", x.degree(1, 1), 20);
        due("full: at(299, 0)", x.at(299, 0), 20);
        due("full: at(300, 0)", x.at(300, 0), 0);
        due("full: check()", x.check(), 1);
        due("full: unlink", x.unlink(1, 1), 299);
        due("full: room again", x.link(21, 1), 300);
        due("full: no room again", x.link(1, 1), PairThreads.FULL);
        due("full: place of the last", x.place(21, 1), 299);
        due("full: rename when full", x.rename(1, 15, 16), 20);
        due("full: rename when full, from both", x.rename(0, 20, 19), 0);
        due("full: count(0) then", x.count(0), 285);
        due("full: check() then", x.check(), 1);
    }

    private static void promise3Unlink() {
        PairThreads x = of(1, 1, 1, 2, 1, 3, 2, 2);
        due("unlink: not linked", x.unlink(2, 1), PairThreads.NONE);
        due("unlink: not linked", x.unlink(3, 1), PairThreads.NONE);
        due("unlink: nothing is done", x.count(0), 4);
        due("unlink: in the middle", x.unlink(1, 2), 3);
        due("unlink: twice", x.unlink(1, 2), PairThreads.NONE);
        dueOrder("unlink", x, 1, 1, 1, 3, 2, 2);
        dueThread("unlink", x, 0, 1, 1, 3);
        dueThread("unlink", x, 1, 2, 2);
        due("unlink: link again", x.link(1, 2), 4);
        dueOrder("unlink: linked again", x, 1, 1, 1, 3, 2, 2, 1, 2);
        dueThread("unlink: linked again", x, 0, 1, 1, 3, 2);
        dueThread("unlink: linked again", x, 1, 2, 2, 1);
        due("unlink: the first", x.unlink(1, 1), 3);
        due("unlink: the last", x.unlink(1, 2), 2);
        dueOrder("unlink: both ends", x, 1, 3, 2, 2);
        due("unlink", x.unlink(2, 2), 1);
        due("unlink", x.unlink(1, 3), 0);
        dueOrder("unlink: all", x);
        due("unlink: none is left", x.unlink(1, 3), PairThreads.NONE);
    }

    private static void promise4Place() {
        PairThreads x = of(7, 8, 8, 7, 7, 7, MIN, MAX);
        due("place", x.place(7, 8), 0);
        due("place", x.place(8, 7), 1);
        due("place", x.place(7, 7), 2);
        due("place", x.place(MIN, MAX), 3);
        due("place: not linked", x.place(8, 8), PairThreads.NONE);
        due("place: not linked", x.place(MAX, MIN), PairThreads.NONE);
        x.unlink(7, 8);
        due("place: taken away", x.place(7, 8), PairThreads.NONE);
        due("place: moves up", x.place(8, 7), 0);
        x.link(7, 8);
        due("place: linked again is last", x.place(7, 8), 3);
    }

    private static void promise5Degree() {
        PairThreads x = of(1, 2, 1, 3, 2, 3, 3, 3, MIN, MAX, MIN, 0);
        due("degree", x.degree(0, 1), 2);
        due("degree", x.degree(0, 2), 1);
        due("degree", x.degree(0, 3), 1);
        due("degree", x.degree(1, 3), 3);
        due("degree", x.degree(1, 2), 1);
        due("degree: only a left", x.degree(1, 1), 0);
        due("degree: smallest", x.degree(0, MIN), 2);
        due("degree: largest", x.degree(1, MAX), 1);
        due("degree: no pair has it", x.degree(0, 99), 0);
        for (int side : NO_SIDES) {
            due("degree(" + side + ", 1)", x.degree(side, 1), PairThreads.NONE);
            due("degree(" + side + ", 99)", x.degree(side, 99), PairThreads.NONE);
        }
    }

    private static void promise6Other() {
        PairThreads x = of(1, 12, 2, 12, 1, 11, 3, 12, 1, MAX, 1, MIN, 3, 11);
        dueThread("other", x, 0, 1, 12, 11, MAX, MIN);
        dueThread("other", x, 1, 12, 1, 2, 3);
        dueThread("other", x, 1, 11, 1, 3);
        dueThread("other: no pair has it", x, 0, 12);
        for (int i : new int[] {-1, 4, 5, 300, MIN, MAX}) {
            due("other(0, 1, " + i + ")", x.other(0, 1, i), 0);
        }
        for (int side : NO_SIDES) {
            due("other(" + side + ", 1, 0)", x.other(side, 1, 0), 0);
        }
    }

    private static void promise7Drop() {
        PairThreads x = of(1, 1, 1, 2, 2, 1, 1, 3, 3, 3, 2, 2);
        for (int side : NO_SIDES) {
            due("drop(" + side + ", 1)", x.drop(side, 1), PairThreads.NONE);
        }
        due("drop: no pair has it", x.drop(0, 9), 0);
        dueOrder("drop: nothing is done", x, 1, 1, 1, 2, 2, 1, 1, 3, 3, 3, 2, 2);
        due("drop: a left", x.drop(0, 1), 3);
        dueOrder("drop: a left", x, 2, 1, 3, 3, 2, 2);
        dueThread("drop: a left", x, 1, 1, 2);
        dueThread("drop: a left", x, 1, 3, 3);
        due("drop: twice", x.drop(0, 1), 0);
        due("drop: a right", x.drop(1, 3), 1);
        dueOrder("drop: a right", x, 2, 1, 2, 2);
        due("drop: all", x.drop(0, 2), 2);
        dueOrder("drop: all", x);
        PairThreads y = full();
        due("drop: of 300", y.drop(1, 7), 20);
        due("drop: of 300", y.drop(0, 7), 14);
        due("drop: count(0)", y.count(0), 266);
        due("drop: check()", y.check(), 1);
    }

    private static void promise8Rename() {
        PairThreads x = of(1, 1, 2, 1, 1, 2, 3, 4, 1, 3, 2, 3);
        for (int side : NO_SIDES) {
            due("rename(" + side + ", 1, 2)", x.rename(side, 1, 2), PairThreads.NONE);
        }
        due("rename: both the same", x.rename(0, 1, 1), PairThreads.NONE);
        due("rename: both the same, no pair has it", x.rename(1, 77, 77), PairThreads.NONE);
        due("rename: no pair has it", x.rename(0, 77, 1), 0);
        due("rename: only on the other side", x.rename(0, 4, 1), 0);
        dueOrder("rename: nothing is done", x, 1, 1, 2, 1, 1, 2, 3, 4, 1, 3, 2, 3);
        due("rename: some are linked already", x.rename(0, 1, 2), 1);
        dueOrder("rename: a left", x, 2, 1, 3, 4, 2, 3, 2, 2);
        dueThread("rename: a left", x, 0, 2, 1, 3, 2);
        dueThread("rename: a left", x, 0, 1);
        due("rename: to a new one", x.rename(0, 2, MIN), 3);
        dueOrder("rename: to a new one", x, 3, 4, MIN, 1, MIN, 3, MIN, 2);
        due("rename: a right", x.rename(1, 4, 3), 1);
        dueOrder("rename: a right", x, MIN, 1, MIN, 3, MIN, 2, 3, 3);
        dueThread("rename: a right", x, 1, 3, MIN, 3);
        due("rename: a right that is linked already", x.rename(1, 1, 3), 0);
        dueOrder("rename: a right that is linked already", x, MIN, 3, MIN, 2, 3, 3);
        due("rename: on the right", x.rename(1, 3, MAX), 2);
        dueOrder("rename: on the right", x, MIN, 2, MIN, MAX, 3, MAX);
    }

    private static void promise8RenameOfAll() {
        PairThreads x = new PairThreads();
        for (int i = 0; i < 300; i++) {
            x.link(7, i);
        }
        due("rename: 300 pairs", x.rename(0, 7, 8), 300);
        due("rename: 300 pairs, in their order", x.place(8, 0), 0);
        due("rename: 300 pairs, in their order", x.place(8, 299), 299);
        due("rename: 300 pairs, the old one", x.degree(0, 7), 0);
        due("rename: one of 300", x.rename(1, 100, 99), 0);
        due("rename: one of 300", x.count(0), 299);
        due("rename: check()", x.check(), 1);
    }

    private static void promise9At() {
        PairThreads x = of(4, 5, 5, 4, MIN, MAX);
        dueOrder("at", x, 4, 5, 5, 4, MIN, MAX);
        for (int place : new int[] {-1, 3, 4, 299, 300, MIN, MAX}) {
            due("at(" + place + ", 0)", x.at(place, 0), 0);
            due("at(" + place + ", 1)", x.at(place, 1), 0);
        }
        for (int side : NO_SIDES) {
            due("at(0, " + side + ")", x.at(0, side), 0);
        }
        x.unlink(MIN, MAX);
        due("at: taken away", x.at(2, 0), 0);
    }

    private static void dueCounts(String when, PairThreads x, int... wants) {
        for (int what = 0; what < wants.length; what++) {
            due(when + ": count(" + what + ")", x.count(what), wants[what]);
        }
    }

    private static void promise10Count() {
        dueCounts("count: one", of(3, 3), 1, 1, 1, 1, 1);
        dueCounts("count: equal ints have nothing in common", of(1, 2, 2, 1), 2, 2, 2, 2, 2);
        dueCounts("count: a star of a left", of(1, 1, 1, 2, 1, 3), 3, 1, 3, 1, 1);
        dueCounts("count: a star of a right", of(1, 1, 2, 1, 3, 1), 3, 3, 1, 1, 1);
        // The pairs that come first stand in the way of the largest matching.
        dueCounts("count: one row to turn", of(1, 1, 1, 2, 2, 1), 3, 2, 2, 2, 1);
        dueCounts("count: a long row to turn",
                of(1, 1, 2, 2, 3, 3, 4, 4, 1, 2, 2, 3, 3, 4, 4, 5, 0, 1), 9, 5, 5, 5, 1);
        dueCounts("count: three lefts of two rights", of(1, 1, 2, 1, 3, 1, 1, 2, 2, 2, 3, 2), 6, 3, 2, 2, 1);
        dueCounts("count: two parts", of(1, 1, 5, 5, 1, 2, 6, 5, MIN, MAX), 5, 4, 4, 3, 3);
        dueCounts("count: full", full(), 300, 20, 15, 15, 1);
        for (int what : new int[] {-1, 5, 6, MIN, MAX}) {
            due("count(" + what + ")", of(1, 1).count(what), PairThreads.NONE);
        }
        PairThreads x = of(1, 1, 1, 2, 2, 2, 2, 3);
        x.unlink(1, 2);
        dueCounts("count: a part breaks", x, 3, 2, 3, 2, 2);
        x.drop(0, 2);
        dueCounts("count: what is dropped", x, 1, 1, 1, 1, 1);
    }

    /** 300 pairs in one row: as far as a search can go. */
    private static PairThreads longRow() {
        PairThreads x = new PairThreads();
        for (int i = 0; i < 150; i++) {
            x.link(i, i);
        }
        for (int i = 0; i < 150; i++) {
            x.link(i, i + 1);
        }
        return x;
    }

    private static void longestSearches() {
        PairThreads x = longRow();
        dueCounts("long row", x, 300, 150, 151, 150, 1);
        due("long row: way", x.way(1, 0, 1, 150), 300);
        due("long row: part", x.part(1, 150), 300);
        due("long row: unlink", x.unlink(149, 150), 299);
        due("long row: link", x.link(-1, 0), 300);
        dueCounts("long row, one moved", x, 300, 151, 150, 150, 1);
        due("long row: cut", x.unlink(75, 75), 299);
        dueCounts("long row, cut", x, 299, 151, 150, 150, 2);
        due("long row, cut: part of the left end", x.part(0, -1), 151);
        due("long row, cut: part of the right end", x.part(0, 149), 148);
        due("long row, cut: way", x.way(0, -1, 0, 149), 0);
        PairThreads apart = new PairThreads();
        for (int i = 0; i < 300; i++) {
            apart.link(i, -i);
        }
        dueCounts("300 apart", apart, 300, 300, 300, 300, 300);
        due("300 apart: check()", apart.check(), 1);
    }

    private static void promise11Part() {
        PairThreads x = of(1, 11, 9, 19, 2, 12, 1, 12, 9, 18, 2, 13, MIN, MAX);
        for (int v = 1; v <= 2; v++) {
            due("part(0, " + v + ")", x.part(0, v), 4);
        }
        for (int v = 11; v <= 13; v++) {
            due("part(1, " + v + ")", x.part(1, v), 4);
        }
        due("part(0, 9)", x.part(0, 9), 2);
        due("part(1, 18)", x.part(1, 18), 2);
        due("part: smallest", x.part(0, MIN), 1);
        due("part: largest", x.part(1, MAX), 1);
        due("part: only on the other side", x.part(0, 11), 0);
        due("part: no pair has it", x.part(1, 77), 0);
        for (int side : NO_SIDES) {
            due("part(" + side + ", 1)", x.part(side, 1), 0);
        }
        x.unlink(1, 12);
        due("part: broken", x.part(0, 1), 1);
        due("part: broken", x.part(0, 2), 2);
    }

    private static void promise12Way() {
        PairThreads x = of(1, 11, 2, 11, 2, 12, 3, 12, 3, 13, 8, 18, MIN, MAX);
        due("way: one pair", x.way(0, 1, 1, 11), 1);
        due("way: one pair, from the right", x.way(1, 11, 0, 1), 1);
        due("way: the same number", x.way(0, 2, 0, 2), 1);
        due("way: the same number, on the right", x.way(1, MAX, 1, MAX), 1);
        due("way: two", x.way(0, 1, 0, 2), 2);
        due("way: three", x.way(0, 1, 1, 12), 3);
        due("way: four", x.way(0, 1, 0, 3), 4);
        due("way: five", x.way(0, 1, 1, 13), 5);
        due("way: five, back", x.way(1, 13, 0, 1), 5);
        due("way: four, rights", x.way(1, 11, 1, 13), 4);
        due("way: another part", x.way(0, 1, 0, 8), 0);
        due("way: no pair has the first", x.way(0, 77, 1, 11), 0);
        due("way: no pair has the last", x.way(0, 1, 1, 77), 0);
        due("way: no pair has the same number", x.way(0, 77, 0, 77), 0);
        for (int side : NO_SIDES) {
            due("way(" + side + ", 1, 1, 11)", x.way(side, 1, 1, 11), 0);
            due("way(0, 1, " + side + ", 11)", x.way(0, 1, side, 11), 0);
            due("way: no sides " + side, x.way(side, 1, side, 1), 0);
        }
        x.link(1, 13);
        due("way: a shorter one", x.way(0, 1, 1, 13), 1);
        due("way: a shorter one", x.way(0, 1, 0, 3), 2);
        x.unlink(1, 13);
        due("way: the shorter one taken away", x.way(0, 1, 0, 3), 4);
    }

    private static void promise13Clear() {
        PairThreads x = full();
        due("clear", x.clear(), 300);
        due("clear: twice", x.clear(), 0);
        dueOrder("clear", x);
        dueCounts("clear", x, 0, 0, 0, 0, 0);
        due("clear: degree", x.degree(0, 1), 0);
        due("clear: other", x.other(0, 1, 0), 0);
        due("clear: part", x.part(0, 1), 0);
        due("clear: way", x.way(0, 1, 1, 1), 0);
        due("clear: unlink", x.unlink(1, 1), PairThreads.NONE);
        due("clear: link", x.link(1, 1), 1);
        due("clear: link", x.link(2, 1), 2);
        dueOrder("clear: link", x, 1, 1, 2, 1);
        dueThread("clear: link", x, 1, 1, 1, 2);
    }

    public static void main(String[] args) {
        promise1New();
        promise2Link();
        promise2Full();
        promise3Unlink();
        promise4Place();
        promise5Degree();
        promise6Other();
        promise7Drop();
        promise8Rename();
        promise8RenameOfAll();
        promise9At();
        promise10Count();
        longestSearches();
        promise11Part();
        promise12Way();
        promise13Clear();
        System.out.println(wrong == 0 ? "all answers are as due" : wrong + " answers are not as due");
        if (wrong != 0) {
            System.exit(1);
        }
    }
}
