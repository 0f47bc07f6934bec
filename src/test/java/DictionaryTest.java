/** Promises 18 (sense), 19 (matched), 20 (sum). */
public final class DictionaryTest {
    private static final int NONE = WordSenses.NONE;

    public static void main(String[] args) {
        senses();
        leastSum();
        likeSums();
        moreHeapsThanSenses();
        moreSensesThanHeaps();
        fiveLargestHeaps();
        wrongHeaps();
        Check.end();
    }

    private static void matches(String when, WordSenses x, int... want) {
        for (int heap = 0; heap < want.length; heap++) {
            Check.due(when + ": matched(" + heap + ")", x.matched(heap), want[heap]);
        }
    }

    private static WordSenses alone(int... neighbours) {
        int[] heaps = new int[neighbours.length];
        for (int use = 0; use < heaps.length; use++) {
            heaps[use] = use;
        }
        return Check.laid(neighbours, heaps);
    }

    private static void senses() {
        WordSenses x = new WordSenses();
        int[] wrong = {-1, 1048576, Integer.MAX_VALUE, Integer.MIN_VALUE};
        for (int neighbours : wrong) {
            Check.due("sense(" + neighbours + ")", x.sense(neighbours), NONE);
        }
        Check.due("none came", x.count(4), 0);
        Check.due("the least", x.sense(0), 0);
        Check.due("the most", x.sense(1048575), 1);
        Check.due("one like another", x.sense(0), 2);
        Check.due("a fourth", x.sense(5), 3);
        Check.due("a fifth", x.sense(6), 4);
        Check.due("one too many", x.sense(7), NONE);
        Check.due("five came", x.count(4), 5);
        Check.due("no heaps, no sum", x.sum(), 0);
        Check.due("no heaps", x.matched(0), NONE);
    }

    private static void leastSum() {
        WordSenses x = alone(0b0011, 0b0111);
        Check.due("no senses, no sum", x.sum(), 0);
        matches("no senses", x, NONE, NONE);
        x.sense(0b0111);
        x.sense(0b0011);
        matches("crossed", x, 1, 0);
        Check.due("sum", x.sum(), 0);
        // sense 0 is the nearest of heap 0, but 1 + 5 is more than 2 + 2
        WordSenses y = alone(0b00000, 0b11001);
        y.sense(0b00001);
        y.sense(0b00110);
        Check.due("sum of both", y.sum(), 2 + 2);
        matches("the sum counts", y, 1, 0);
        y.weight(1, 9);
        Check.due("sum, heavier", y.sum(), 10 + 2);
        matches("heavier", y, 1, 0);
        y.weight(0, 9);
        // 9 + 21 as against 10 + 2
        matches("heavier still", y, 1, 0);
        y.weight(3, 9);
        y.fix(1, 0);
        Check.due("one heap, core 25", y.sum(), 10);
        WordSenses z = Check.laid(new int[] {0b0011, 0b0001, 0b0101}, new int[] {0, 0, 0});
        z.sense(0b0001);
        Check.due("a core is matched, not a use", z.sum(), 0);
    }

    private static void likeSums() {
        WordSenses x = alone(1, 2, 4);
        x.sense(8);
        x.sense(8);
        x.sense(8);
        matches("all alike", x, 0, 1, 2);
        Check.due("sum", x.sum(), 6);
        WordSenses y = alone(1, 2);
        y.sense(3);
        y.sense(0);
        matches("like sums", y, 0, 1);
        Check.due("sum", y.sum(), 2);
    }

    private static void moreHeapsThanSenses() {
        WordSenses x = alone(1, 2, 4);
        x.sense(8);
        matches("none is behind all", x, 0, NONE, NONE);
        Check.due("sum", x.sum(), 2);
        x.sense(4);
        matches("the nearest", x, 0, NONE, 1);
        Check.due("sum of two", x.sum(), 2);
        WordSenses y = alone(7, 56, 448);
        y.sense(56);
        matches("the second", y, NONE, 0, NONE);
        Check.due("sum", y.sum(), 0);
    }

    private static void moreSensesThanHeaps() {
        WordSenses x = alone(1, 2);
        x.sense(1023);
        x.sense(2);
        x.sense(2);
        x.sense(1);
        matches("two of four", x, 3, 1);
        Check.due("sum", x.sum(), 0);
        // as many as can be, though each costs
        WordSenses y = alone(1, 2);
        y.sense(1023);
        y.sense(1023 << 10);
        Check.due("both are matched", y.sum(), 9 + 11);
        matches("both", y, 0, 1);
    }

    private static void fiveLargestHeaps() {
        // heaps 0 .. 5 of one use each, and 6 and 8 of two: those and 0, 1, 2 are the five
        int[] uses = {1, 2, 4, 8, 16, 32, 64, 64, 128, 128};
        int[] heaps = {0, 1, 2, 3, 4, 5, 6, 6, 8, 8};
        WordSenses x = Check.laid(uses, heaps);
        x.sense(32);
        x.sense(128);
        x.sense(64);
        matches("of seven and more", x, 0, NONE, NONE, NONE, NONE, NONE, 2, NONE, 1);
        Check.due("sum", x.sum(), 2);
        x.sense(8);
        x.sense(4);
        matches("five", x, 0, 3, 4, NONE, NONE, NONE, 2, NONE, 1);
        Check.due("sum of five", x.sum(), 4);
        x.fix(0, NONE);
        matches("heap 3 comes up", x, NONE, 0, 4, 3, NONE, NONE, 2, NONE, 1);
        Check.due("sum of these", x.sum(), 2);
        Check.due("heaps are as before", x.count(1), 7);
    }

    private static void wrongHeaps() {
        WordSenses x = Check.laid(new int[] {1, 1, 1}, new int[] {0, 0, NONE});
        x.sense(1);
        x.sense(1);
        int[] wrong = {-1, 1, 2, 3, 40, Integer.MAX_VALUE, Integer.MIN_VALUE};
        for (int heap : wrong) {
            Check.due("matched(" + heap + ")", x.matched(heap), NONE);
        }
        Check.due("matched(0)", x.matched(0), 0);
    }
}
