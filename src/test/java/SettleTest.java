/** Promises 9 (settle) and 23 (STEPS ever). */
public final class SettleTest {
    private static final int NONE = WordSenses.NONE;

    public static void main(String[] args) {
        wrongNumbers();
        layingsComeFirst();
        layingsToLikePlaces();
        layingsKeepBonds();
        firstMoveThatBetters();
        moveByItself();
        likeCostIsNoBetter();
        fewerBrokenGoesFirst();
        moreBrokenNever();
        melts();
        meltsInOrder();
        meltsAndBonds();
        stepsAtMost();
        Check.end();
    }

    private static void wrongNumbers() {
        WordSenses x = Check.laid(new int[] {1, 1}, new int[] {0, 1});
        int[] wrong = {-1, 101, Integer.MAX_VALUE, Integer.MIN_VALUE};
        for (int n : wrong) {
            Check.due("settle(" + n + ")", x.settle(n), NONE);
        }
        Check.due("settle(0)", x.settle(0), 0);
        Check.heaps("nothing changed", x, 0, 1);
        Check.due("no steps", x.count(5), 0);
        Check.due("settle(100)", x.settle(100), 1);
        Check.due("one step", x.count(5), 1);
        Check.due("settle(100) again", x.settle(100), 0);
        Check.due("one step still", x.count(5), 1);
    }

    private static void layingsComeFirst() {
        // use 1 would better by a move, but 2 and 3 are open
        WordSenses x = Check.laid(new int[] {1, 1, 2, 6}, new int[] {0, 1, NONE, NONE});
        x.prices(2, 1);
        Check.due("settle(1)", x.settle(1), 1);
        Check.heaps("use 2, dearer in heaps, of like ones a heap", x, 0, 1, 0, NONE);
        Check.due("settle(1)", x.settle(1), 1);
        Check.heaps("use 3 by itself", x, 0, 1, 0, 3);
        Check.due("settle(1)", x.settle(1), 1);
        // use 0 is moved to heap 1: there it costs 0, where it was 2
        Check.heaps("then a move", x, 0, 0, 2, 3);
    }

    private static void layingsToLikePlaces() {
        WordSenses x = Check.laid(new int[] {1, 2, 0}, new int[] {0, 1, NONE});
        x.prices(10, 50);
        Check.due("gap does not hold a laying back", x.settle(1), 1);
        Check.heaps("the first of like heaps", x, 0, 1, 0);
        WordSenses y = Check.laid(new int[] {1, 2, 0}, new int[] {0, 1, NONE});
        y.prices(1, 1);
        y.settle(1);
        Check.heaps("a heap ahead of by itself", y, 0, 1, 0);
        WordSenses z = Check.laid(new int[] {1, 2, 0}, new int[] {0, 1, NONE});
        z.prices(0, 1);
        z.settle(1);
        Check.heaps("by itself costs less", z, 0, 1, 2);
        WordSenses w = Check.laid(new int[] {0, 1, 1}, new int[] {NONE, 1, 1});
        w.settle(1);
        Check.heaps("a lesser use comes in", w, 0, 0, 0);
    }

    private static void layingsKeepBonds() {
        int[] uses = {1, 1, 2, 1};
        int[] heaps = {0, 0, 2, NONE};
        WordSenses x = Check.laid(uses, heaps);
        x.bond(3, 1, false);
        Check.due("mustn't", x.settle(1), 1);
        Check.heaps("not with use 1", x, 0, 0, 2, 2);
        WordSenses y = Check.laid(uses, heaps);
        y.bond(3, 2, true);
        y.settle(1);
        Check.heaps("with use 2", y, 0, 0, 2, 2);
        WordSenses z = Check.laid(uses, heaps);
        z.bond(3, 2, false);
        z.bond(3, 0, false);
        z.settle(1);
        Check.heaps("by itself alone", z, 0, 0, 2, 3);
        WordSenses w = Check.laid(uses, heaps);
        w.bond(3, 2, true);
        w.bond(3, 0, true);
        w.bond(0, 2, false);
        Check.due("no place, and no step else", w.settle(9), 0);
        Check.heaps("it stays open", w, 0, 0, 2, NONE);
        WordSenses v = Check.laid(new int[] {1, 2, 1, 1}, new int[] {0, 1, NONE, NONE});
        v.bond(2, 0, true);
        v.bond(2, 1, true);
        v.bond(0, 1, false);
        Check.due("the next open one is laid", v.settle(1), 1);
        Check.heaps("use 3", v, 0, 1, NONE, 0);
        WordSenses u = Check.laid(uses, new int[] {0, 0, 2, NONE});
        u.bond(0, 2, true);
        u.bond(3, 0, false);
        u.settle(1);
        Check.heaps("a bond that was broken ahead of it does not count", u, 0, 0, 2, 2);
    }

    private static void firstMoveThatBetters() {
        // by itself in heap 0 it costs 3; heap 1 costs 2, heap 2 costs 0: the first that betters, not the best
        WordSenses x = Check.laid(new int[] {1, 2, 1}, new int[] {0, 1, 2});
        x.prices(3, 1);
        Check.due("settle(1)", x.settle(1), 1);
        Check.heaps("to heap 1", x, 0, 0, 2);
        Check.due("settle(1)", x.settle(1), 1);
        Check.heaps("then to heap 2", x, 0, 1, 0);
        Check.due("settle(9)", x.settle(9), 0);
        Check.due("cost", x.cost(), 6);
    }

    private static void moveByItself() {
        WordSenses x = Check.laid(new int[] {1, 1, 6}, new int[] {0, 0, 0});
        x.prices(5, 1);
        Check.due("settle(9)", x.settle(9), 1);
        Check.heaps("use 2 goes", x, 0, 0, 2);
        WordSenses y = Check.laid(new int[] {6, 1, 1}, new int[] {0, 0, 0});
        y.prices(5, 1);
        Check.due("settle(9)", y.settle(9), 1);
        Check.heaps("the least use goes", y, 0, 1, 1);
        WordSenses z = Check.laid(new int[] {1, 6}, new int[] {0, 1});
        z.prices(3, 1);
        Check.due("by itself already", z.settle(9), 0);
        // heaps go ahead of by itself: both better use 0
        WordSenses w = Check.laid(new int[] {1, 30, 3}, new int[] {0, 0, 2});
        w.prices(4, 1);
        w.settle(1);
        Check.heaps("to heap 2, not by itself", w, 0, 1, 0);
    }

    private static void likeCostIsNoBetter() {
        WordSenses x = Check.laid(new int[] {1, 2}, new int[] {0, 1});
        x.prices(2, 1);
        Check.due("in two, like cost", x.settle(9), 0);
        x.prices(3, 1);
        Check.due("in two, dearer by 1", x.settle(9), 1);
        x.prices(2, 1);
        Check.due("in one, like cost", x.settle(9), 0);
        Check.heaps("in one", x, 0, 0);
        x.prices(1, 1);
        Check.due("in one, dearer by 1", x.settle(9), 1);
        Check.heaps("in two", x, 0, 1);
    }

    private static void fewerBrokenGoesFirst() {
        WordSenses x = Check.laid(new int[] {1, 1, 1022, 1022}, new int[] {0, 0, 2, 2});
        x.bond(1, 2, true);
        Check.due("a dearer move that mends", x.settle(1), 1);
        Check.heaps("use 1 to use 2", x, 0, 1, 1, 1);
        Check.due("dearer", x.cost(), 10 + 10 + 10 + 10);
        Check.due("kept", x.broken(), 0);
        WordSenses y = Check.laid(new int[] {1, 1, 1}, new int[] {0, 0, 0});
        y.bond(0, 2, false);
        Check.due("parted", y.settle(1), 1);
        Check.heaps("use 0 by itself", y, 0, 1, 1);
        Check.due("kept too", y.broken(), 0);
    }

    private static void moreBrokenNever() {
        WordSenses x = Check.laid(new int[] {1, 1, 510, 1}, new int[] {0, 0, 2, 2});
        x.bond(3, 2, true);
        Check.due("use 3 stays", x.settle(9), 0);
        x.free(2, 3);
        Check.due("use 3 goes", x.settle(9), 1);
        Check.heaps("gone", x, 0, 0, 2, 0);
        WordSenses y = Check.laid(new int[] {1, 1}, new int[] {0, 1});
        y.bond(0, 1, false);
        Check.due("no melt, no move", y.settle(9), 0);
        WordSenses z = Check.laid(new int[] {1, 1, 2, 2}, new int[] {0, 0, 2, 2});
        z.bond(0, 3, true);
        z.bond(0, 1, true);
        z.bond(2, 3, true);
        z.bond(1, 2, false);
        z.prices(8, 1);
        Check.due("no step mends more than it breaks", z.settle(9), 0);
        Check.due("one is broken", z.broken(), 1);
    }

    private static void melts() {
        // each move makes 3 * 2 - 0 dearer than 0 where it is; together 9 * 2 is less than a heap
        int[] uses = {1, 1, 1, 2, 2, 2};
        int[] heaps = {0, 0, 0, 3, 3, 3};
        WordSenses x = Check.laid(uses, heaps);
        x.prices(18, 1);
        Check.due("like cost", x.settle(9), 0);
        x.prices(19, 1);
        Check.due("less cost", x.settle(9), 1);
        Check.heaps("one heap", x, 0, 0, 0, 0, 0, 0);
        Check.due("cost", x.cost(), 19 + 18);
    }

    private static void meltsInOrder() {
        // heap 0 is far from both others; heaps 2 and 4 melt
        int[] uses = {1022, 1022, 1, 1, 3, 3};
        int[] heaps = {0, 0, 2, 2, 4, 4};
        WordSenses x = Check.laid(uses, heaps);
        x.bond(2, 3, true);
        x.bond(4, 5, true);
        Check.due("settle(1)", x.settle(1), 1);
        Check.heaps("2 and 4", x, 0, 0, 2, 2, 2, 2);
        // heap 0 with 2 and with 4 costs alike: the first is taken
        WordSenses y = Check.laid(new int[] {1, 1, 2, 2, 4, 4}, heaps);
        Check.due("settle(1)", y.settle(1), 1);
        Check.heaps("0 and 2", y, 0, 0, 0, 0, 4, 4);
        // 0 with 4 betters and 2 with 4 would better more
        WordSenses z = Check.laid(new int[] {3, 3, 24, 24, 16, 16}, heaps);
        z.prices(13, 1);
        Check.due("settle(1)", z.settle(1), 1);
        Check.heaps("0 and 4", z, 0, 0, 2, 2, 0, 0);
    }

    private static void meltsAndBonds() {
        int[] uses = {1, 1, 1022, 1022};
        int[] heaps = {0, 0, 2, 2};
        WordSenses x = Check.laid(uses, heaps);
        x.bond(0, 1, true);
        x.bond(2, 3, true);
        x.bond(0, 2, true);
        Check.due("no move mends, a melt does", x.settle(1), 1);
        Check.heaps("one heap", x, 0, 0, 0, 0);
        Check.due("dearer", x.cost(), 10 + 40);
        WordSenses y = Check.laid(new int[] {1, 1, 1, 1}, heaps);
        y.bond(0, 1, true);
        y.bond(2, 3, true);
        y.bond(0, 2, true);
        y.bond(0, 3, false);
        Check.due("as many broken, and less cost", y.settle(9), 1);
        Check.heaps("one heap too", y, 0, 0, 0, 0);
        Check.due("one is broken still", y.broken(), 1);
        WordSenses z = Check.laid(new int[] {1, 1, 1, 1}, heaps);
        z.bond(0, 1, true);
        z.bond(2, 3, true);
        z.bond(1, 3, false);
        Check.due("one more broken", z.settle(9), 0);
    }

    private static void stepsAtMost() {
        WordSenses x = new WordSenses();
        x.prices(0, 0);
        for (int use = 0; use < 40; use++) {
            x.use(use % 4, 1900);
        }
        for (int use = 0; use < 40; use++) {
            x.fix(use, NONE);
        }
        Check.due("settle(7)", x.settle(7), 7);
        Check.due("33 are open", x.count(2), 33);
        Check.due("settle(100)", x.settle(100), 33);
        Check.due("none is open", x.count(2), 0);
        Check.due("four heaps", x.count(1), 4);
        Check.due("steps ever", x.count(5), 40);
        for (int use = 1; use < 40; use++) {
            x.fix(use, 0);
        }
        Check.due("a hundred at most", x.settle(100), 100);
        int rest = x.settle(100);
        Check.due("some are left, not so many", rest > 0 && rest < 100, true);
        Check.due("settled", x.settle(100), 0);
        Check.due("steps ever", x.count(5), 140 + rest);
        Check.due("cost", x.cost(), 0);
    }
}
