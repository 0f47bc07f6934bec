/** Promises 6 (fix), 10 (heap), 11 (size), 13 (cost): a method for each sentence that names an edge. */
public final class EdgesOfHeapsTest {
    private static final int NONE = WordSenses.NONE;

    public static void main(String[] args) {
        intoTheHeapOfAnother();
        withItselfByItself();
        noneIsOpen();
        intoItsOwnHeap();
        noSuchUse();
        noSuchOther();
        otherIsOpen();
        lastOfAHeapGoes();
        knownByItsLeastUse();
        heapOfAnOpenOne();
        heapOfNoneSuch();
        sizeOfNoLeastOne();
        sizeOfNoneSuch();
        sizesOfFullObject();
        costOfNothing();
        costOfEachHeap();
        costOfEachTwo();
        costOfMost();
        Check.end();
    }

    /** fix: A hand puts a USE into the HEAP of another one. */
    private static void intoTheHeapOfAnother() {
        WordSenses x = Check.laid(new int[] {1, 2, 4, 8, 1048575}, new int[] {0, 1, 1, 1, NONE});
        Check.due("fix(0, 3): the other one is no least one", x.fix(0, 3), true);
        Check.heaps("into its heap", x, 0, 0, 0, 0, NONE);
        Check.due("fix(4, 2): an open one, however dear", x.fix(4, 2), true);
        Check.heaps("into that heap too", x, 0, 0, 0, 0, 0);
        x.bond(0, 1, false);
        x.fix(0, 0);
        Check.due("fix(0, 1): a bond doesn't hold a hand", x.fix(0, 1), true);
        Check.heaps("with its bond broken", x, 0, 0, 0, 0, 0);
        WordSenses full = Scenes.full();
        Check.due("fix(39, 34) of forty", full.fix(39, 34), true);
        Check.due("the last use of all", full.heap(39), 4);
    }

    /** With itself: by itself. An OPEN one, too: it is not another one that is OPEN. */
    private static void withItselfByItself() {
        WordSenses x = Check.laid(new int[] {1, 1, 1}, new int[] {0, 0, NONE});
        Check.due("fix(1, 1) from a heap", x.fix(1, 1), true);
        Check.heaps("by itself", x, 0, 1, NONE);
        Check.due("fix(2, 2) from open", x.fix(2, 2), true);
        Check.heaps("an open one by itself", x, 0, 1, 2);
        Check.due("fix(2, 2) again", x.fix(2, 2), true);
        Check.heaps("still by itself", x, 0, 1, 2);
        Check.due("three heaps", x.count(1), 3);
        Check.due("none is open", x.count(2), 0);
    }

    /** NONE: OPEN. */
    private static void noneIsOpen() {
        WordSenses x = Check.laid(new int[] {1, 1, 1}, new int[] {0, 0, 0});
        Check.due("fix(0, NONE) from a heap", x.fix(0, -1), true);
        Check.heaps("open", x, NONE, 1, 1);
        Check.due("fix(0, NONE) from open", x.fix(0, -1), true);
        Check.heaps("still open", x, NONE, 1, 1);
        Check.due("one is open", x.count(2), 1);
        x.fix(1, NONE);
        x.fix(2, NONE);
        Check.due("no heap is left", x.count(1), 0);
        Check.due("all are open", x.count(2), 3);
    }

    /** Into the HEAP where it is: nothing is other than before. */
    private static void intoItsOwnHeap() {
        Twins.refused("fix(1, 0)", 1, x -> x.fix(1, 0) ? 1 : 0, Scenes::some);
        Twins.refused("fix(0, 5)", 1, x -> x.fix(0, 5) ? 1 : 0, Scenes::some);
        Twins.refused("fix(7, NONE), which is open", 1, x -> x.fix(7, NONE) ? 1 : 0, Scenes::some);
    }

    /** fix: false if there is none such (the use). */
    private static void noSuchUse() {
        for (int use : Check.outside(0, 7)) {
            Twins.refused("fix(" + use + ", 0)", 0, x -> x.fix(use, 0) ? 1 : 0, Scenes::some);
            Twins.refused("fix(" + use + ", itself)", 0, x -> x.fix(use, use) ? 1 : 0, Scenes::some);
            Twins.refused("fix(" + use + ", NONE)", 0, x -> x.fix(use, NONE) ? 1 : 0, Scenes::some);
            Twins.refused("fix(" + use + ", 7), which is open", 0, x -> x.fix(use, 7) ? 1 : 0, Scenes::some);
        }
        for (int use : Check.outside(0, 39)) {
            Twins.refused("fix(" + use + ", 3) of forty", 0, x -> x.fix(use, 3) ? 1 : 0, Scenes::full);
        }
        Twins.refused("fix(0, 0) of none", 0, x -> x.fix(0, 0) ? 1 : 0, Scenes::empty);
        Twins.refused("fix(0, NONE) of none", 0, x -> x.fix(0, NONE) ? 1 : 0, Scenes::empty);
        Twins.refused("fix(NONE, NONE)", false, x -> x.fix(NONE, NONE) ? 1 : 0);
    }

    /** fix: false if there is none such (the other one). */
    private static void noSuchOther() {
        for (int other : Check.outside(0, 7)) {
            if (other != NONE) {
                Twins.refused("fix(1, " + other + ")", 0, x -> x.fix(1, other) ? 1 : 0, Scenes::some);
                Twins.refused("fix(7, " + other + ")", 0, x -> x.fix(7, other) ? 1 : 0, Scenes::some);
            }
        }
        for (int other : Check.outside(0, 39)) {
            if (other != NONE) {
                Twins.refused("fix(39, " + other + ") of forty", 0, x -> x.fix(39, other) ? 1 : 0, Scenes::full);
            }
        }
    }

    /** fix: false if the other one is OPEN. */
    private static void otherIsOpen() {
        Twins.refused("fix(1, 7): from a heap", 0, x -> x.fix(1, 7) ? 1 : 0, Scenes::some);
        Twins.refused("fix(0, 7): the least of a heap", 0, x -> x.fix(0, 7) ? 1 : 0, Scenes::some);
        Twins.refused("fix(39, 38): both are open", 0, x -> x.fix(39, 38) ? 1 : 0, Scenes::full);
        Twins.refused("fix(0, 35)", 0, x -> x.fix(0, 35) ? 1 : 0, Scenes::full);
    }

    /** A HEAP without USES is none. */
    private static void lastOfAHeapGoes() {
        WordSenses x = Check.laid(new int[] {1, 1, 2}, new int[] {0, 0, 2});
        Check.due("fix(2, 0)", x.fix(2, 0), true);
        Check.due("one heap is left", x.count(1), 1);
        Check.due("it costs one price", x.cost(), 10 + 2 + 2);
        Check.due("size(2)", x.size(2), 0);
        x.fix(2, 2);
        x.fix(2, NONE);
        Check.due("one heap is left, one use is open", x.count(1), 1);
        Check.due("size(2) of an open one", x.size(2), 0);
    }

    /** A HEAP is known by its least USE. */
    private static void knownByItsLeastUse() {
        WordSenses x = Check.laid(new int[] {1, 1, 1, 1}, new int[] {NONE, 1, 1, 1});
        Check.heaps("of three", x, NONE, 1, 1, 1);
        x.fix(0, 2);
        Check.heaps("a lesser one comes", x, 0, 0, 0, 0);
        Check.due("size by the new one", x.size(0), 4);
        Check.due("size by the old one", x.size(1), 0);
        x.fix(0, NONE);
        Check.heaps("it goes", x, NONE, 1, 1, 1);
        x.fix(1, 1);
        Check.heaps("the next one goes", x, NONE, 1, 2, 2);
        x.fix(2, 1);
        Check.heaps("and the next", x, NONE, 1, 1, 3);
        x.fix(3, 3);
        x.fix(1, 3);
        Check.heaps("a lesser one into the heap of the last", x, NONE, 1, 2, 1);
    }

    /** heap: NONE if it is OPEN. */
    private static void heapOfAnOpenOne() {
        Twins.refused("heap(7)", NONE, x -> x.heap(7), Scenes::some);
        Twins.refused("heap(39) of forty", NONE, x -> x.heap(39), Scenes::full);
        Check.due("heap(34) of forty", Scenes.full().heap(34), 4);
    }

    /** heap: NONE if there is none such. */
    private static void heapOfNoneSuch() {
        for (int use : Check.outside(0, 7)) {
            Twins.refused("heap(" + use + ")", NONE, x -> x.heap(use), Scenes::some);
        }
        for (int use : Check.outside(0, 39)) {
            Twins.refused("heap(" + use + ") of forty", NONE, x -> x.heap(use), Scenes::full);
        }
        Twins.refused("heap(0) of none", NONE, x -> x.heap(0), Scenes::empty);
    }

    /** size: 0 if that is no least one. */
    private static void sizeOfNoLeastOne() {
        WordSenses x = Scenes.some();
        int[] sizes = {3, 0, 2, 0, 2, 0, 0, 0};
        for (int use = 0; use < 8; use++) {
            Check.due("size(" + use + ")", x.size(use), sizes[use]);
        }
    }

    /** size: 0 if there is none such. */
    private static void sizeOfNoneSuch() {
        for (int heap : Check.outside(0, 7)) {
            Twins.refused("size(" + heap + ")", 0, x -> x.size(heap), Scenes::some);
        }
        for (int heap : Check.outside(0, 39)) {
            Twins.refused("size(" + heap + ") of forty", 0, x -> x.size(heap), Scenes::full);
        }
        Twins.refused("size(0) of none", 0, x -> x.size(0), Scenes::empty);
    }

    /** How many USES the HEAP has: one, and all forty. */
    private static void sizesOfFullObject() {
        WordSenses x = Scenes.full();
        for (int use = 0; use < 40; use++) {
            x.fix(use, use);
        }
        Check.due("forty heaps", x.count(1), 40);
        Check.due("the first has one", x.size(0), 1);
        Check.due("the last has one", x.size(39), 1);
        for (int use = 0; use < 39; use++) {
            x.fix(use, 39);
        }
        Check.due("one heap", x.count(1), 1);
        Check.due("all are in it", x.size(0), 40);
        Check.due("the last is known by the first", x.heap(39), 0);
    }

    /** COST is of HEAPS: of none it is 0, and OPEN ones add none. */
    private static void costOfNothing() {
        Check.due("cost of no uses", new WordSenses().cost(), 0);
        WordSenses x = Check.laid(new int[] {1, 2, 4}, new int[] {NONE, NONE, NONE});
        Check.due("cost of open ones", x.cost(), 0);
        x.fix(2, 2);
        Check.due("cost of one use", x.cost(), 10);
        x.prices(0, 0);
        Check.due("price 0", x.cost(), 0);
    }

    /** PRICE for each HEAP. */
    private static void costOfEachHeap() {
        WordSenses x = Scenes.full();
        for (int use = 0; use < 40; use++) {
            x.fix(use, use);
        }
        Check.due("forty heaps of 10", x.cost(), 400);
        x.prices(200, 50);
        Check.due("forty heaps of 200", x.cost(), 8000);
        x.fix(39, NONE);
        Check.due("thirty-nine", x.cost(), 7800);
    }

    /** FAR of each two USES that are in one: not of those in two HEAPS, nor of OPEN ones; each two once. */
    private static void costOfEachTwo() {
        int[] sets = {0b1, 0b11, 0b10000, 0b11110000, 0b1100000000};
        WordSenses x = Check.laid(sets, new int[] {0, 0, 2, 2, NONE});
        Check.due("two heaps", x.cost(), 2 * 10 + 1 + 3);
        x.weight(1, 9);
        Check.due("by weights of now", x.cost(), 2 * 10 + 9 + 3);
    }

    /** The most that COST can be. */
    private static void costOfMost() {
        WordSenses x = new WordSenses();
        for (int n = 0; n < 20; n++) {
            x.weight(n, 9);
        }
        for (int use = 0; use < 40; use++) {
            x.use(use < 20 ? 0 : 1048575, 1900);
        }
        x.prices(200, 0);
        for (int use = 0; use < 40; use++) {
            x.fix(use, 0);
        }
        Check.due("twenty against twenty", x.cost(), 200 + 20 * 20 * 180);
    }
}
