/** USES are at most 40: those that come late, 32 .. 39, count like the first in all promises. */
public final class EdgesOfLateUsesTest {
    private static final int NONE = WordSenses.NONE;
    private static final int ALL = 1048575;

    public static void main(String[] args) {
        heapsOfLateUses();
        largestHeapIsLate();
        newUseToALateHeap();
        moveOutOfALateHeap();
        meltOfLateHeaps();
        lateMustNotBarsAMelt();
        lateMustMendedByAMelt();
        Check.end();
    }

    /** Forty uses; all ahead of the late ones have the same neighbours, and lie together or are open. */
    private static WordSenses late(int firstSet, int firstHeap, int[] sets, int[] heaps) {
        int[] allSets = new int[40];
        int[] allHeaps = new int[40];
        int ahead = 40 - sets.length;
        for (int use = 0; use < 40; use++) {
            allSets[use] = use < ahead ? firstSet : sets[use - ahead];
            allHeaps[use] = use < ahead ? firstHeap : heaps[use - ahead];
        }
        return Check.laid(allSets, allHeaps);
    }

    private static void heapsOfLateUses() {
        WordSenses x = late(0, 0, new int[] {3, 1, 1, 8, 8, 0, 0}, new int[] {33, 33, 33, 36, 36, NONE, NONE});
        Check.due("size(33)", x.size(33), 3);
        Check.due("size(36)", x.size(36), 2);
        Check.due("name(33)", x.name(33), 1);
        Check.due("name(36)", x.name(36), 8);
        Check.due("core(33)", x.core(33), 1);
        Check.due("core(36)", x.core(36), 8);
        Check.due("first(33)", x.first(33), 1933);
        Check.due("first(36)", x.first(36), 1936);
        Check.due("share of 33, 34", x.share(33, 1933, 1934, 0), 2);
        Check.due("share at most", x.share(33, 1933, 1939, 1), 5);
        Check.due("open ones", x.count(2), 2);
        x.sense(8);
        x.sense(1);
        Check.due("matched(33)", x.matched(33), 1);
        Check.due("matched(36)", x.matched(36), 0);
        Check.due("matched(0)", x.matched(0), NONE);
        Check.due("sum()", x.sum(), 0);
    }

    private static void largestHeapIsLate() {
        WordSenses x = late(0, NONE, new int[8], new int[] {32, 32, NONE, NONE, NONE, NONE, NONE, NONE});
        for (int use = 0; use < 5; use++) {
            x.fix(use, use);
            x.sense(0);
        }
        for (int heap = 0; heap < 4; heap++) {
            Check.due("matched(" + heap + ")", x.matched(heap), heap);
        }
        Check.due("matched(4), the sixth", x.matched(4), NONE);
        Check.due("matched(32), of two", x.matched(32), 4);
    }

    private static void newUseToALateHeap() {
        WordSenses x = new WordSenses();
        for (int use = 0; use < 39; use++) {
            x.use(7, 1900);
            x.fix(use, NONE);
        }
        x.fix(38, 38);
        Check.due("the last use", x.use(7, 1900), 39);
        Check.due("it goes to heap 38", x.heap(39), 38);
    }

    private static void moveOutOfALateHeap() {
        WordSenses x = late(0, 0, new int[] {ALL, 0}, new int[] {38, 38});
        Check.due("cost ahead", x.cost(), 2 * 10 + 20);
        Check.due("settle(1)", x.settle(1), 1);
        Check.due("38 is moved by itself", x.heap(38), 38);
        Check.due("39 is left", x.heap(39), 39);
        Check.due("cost then", x.cost(), 3 * 10);
    }

    private static WordSenses twoLateHeaps(int setOfSecond) {
        return late(ALL, 0, new int[] {0, 0, setOfSecond, setOfSecond}, new int[] {36, 36, 38, 38});
    }

    private static void meltOfLateHeaps() {
        WordSenses x = twoLateHeaps(0);
        Check.due("settle(9)", x.settle(9), 1);
        Check.due("heap(39)", x.heap(39), 36);
        Check.due("size(36)", x.size(36), 4);
    }

    private static void lateMustNotBarsAMelt() {
        WordSenses x = twoLateHeaps(0);
        x.bond(37, 39, false);
        Check.due("settle(9)", x.settle(9), 0);
        Check.due("heap(39)", x.heap(39), 38);
    }

    /** A move of 36 or 38 would break one for the one that it mends, and cost more. */
    private static void lateMustMendedByAMelt() {
        WordSenses x = twoLateHeaps(1023);
        x.bond(36, 37, true);
        x.bond(38, 39, true);
        x.bond(36, 38, true);
        Check.due("broken ahead", x.broken(), 1);
        Check.due("settle(1)", x.settle(1), 1);
        Check.due("broken then", x.broken(), 0);
        Check.due("heap(39)", x.heap(39), 36);
        Check.due("settle(9)", x.settle(9), 0);
    }
}
