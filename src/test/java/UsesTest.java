/** Promises 1 (a new object), 2 (weight), 3 (prices), 5 (use), 12 (far). */
public final class UsesTest {
    private static final int NONE = WordSenses.NONE;

    public static void main(String[] args) {
        newObject();
        weightsMakeFar();
        wrongWeights();
        farOfWrongUses();
        wrongUses();
        fortyUses();
        cheapestPlace();
        gapKeepsOpen();
        likePlaces();
        wrongPrices();
        weightsCountForUsesThatLie();
        Check.end();
    }

    private static void newObject() {
        WordSenses x = new WordSenses();
        for (int what = 0; what <= 5; what++) {
            Check.due("new: count(" + what + ")", x.count(what), 0);
        }
        Check.due("new: cost", x.cost(), 0);
        Check.due("new: broken", x.broken(), 0);
        Check.due("new: best", x.best(), NONE);
        Check.due("new: sum", x.sum(), 0);
        Check.due("new: heap(0)", x.heap(0), NONE);
        Check.due("new: size(0)", x.size(0), 0);
    }

    private static void weightsMakeFar() {
        WordSenses x = new WordSenses();
        x.use(0b0011, 1900);
        x.use(0b0110, 1900);
        x.use(1048575, 1900);
        Check.due("far at first", x.far(0, 1), 2);
        Check.due("far of all", x.far(0, 2), 18);
        Check.due("weight(0, 9)", x.weight(0, 9), true);
        Check.due("far, heavier", x.far(0, 1), 10);
        Check.due("far, turned", x.far(1, 0), 10);
        Check.due("a neighbour of both", x.far(0, 2), 18);
        Check.due("weight(19, 4)", x.weight(19, 4), true);
        Check.due("the last neighbour", x.far(0, 2), 21);
        Check.due("weight(0, 1)", x.weight(0, 1), true);
        Check.due("lighter again", x.far(0, 1), 2);
        x.weight(2, 5);
        x.use(0b0010, 1900);
        Check.due("a use that comes later", x.far(1, 3), 5);
        Check.due("with itself", x.far(3, 3), 0);
    }

    private static void wrongWeights() {
        WordSenses x = new WordSenses();
        x.use(1, 1900);
        x.use(0, 1900);
        int[][] wrong = {{-1, 5}, {20, 5}, {0, 0}, {0, 10}, {0, -1}, {Integer.MIN_VALUE, 1}, {Integer.MAX_VALUE, 1},
            {0, Integer.MAX_VALUE}};
        for (int[] pair : wrong) {
            Check.due("weight(" + pair[0] + ", " + pair[1] + ")", x.weight(pair[0], pair[1]), false);
        }
        Check.due("far, as before", x.far(0, 1), 1);
    }

    private static void farOfWrongUses() {
        WordSenses x = new WordSenses();
        Check.due("far, no uses", x.far(0, 0), NONE);
        x.use(1, 1900);
        int[] wrong = {-1, 1, 40, Integer.MAX_VALUE, Integer.MIN_VALUE};
        for (int use : wrong) {
            Check.due("far(0, " + use + ")", x.far(0, use), NONE);
            Check.due("far(" + use + ", 0)", x.far(use, 0), NONE);
        }
    }

    private static void wrongUses() {
        WordSenses x = new WordSenses();
        int[][] wrong = {{-1, 1900}, {1048576, 1900}, {0, 1799}, {0, 2000}, {0, -1}, {Integer.MAX_VALUE, 1900},
            {Integer.MIN_VALUE, 1900}, {0, Integer.MAX_VALUE}};
        for (int[] pair : wrong) {
            Check.due("use(" + pair[0] + ", " + pair[1] + ")", x.use(pair[0], pair[1]), NONE);
        }
        Check.due("none came", x.count(0), 0);
        Check.due("the least", x.use(0, 1800), 0);
        Check.due("the most", x.use(1048575, 1999), 1);
        Check.due("two came", x.count(0), 2);
    }

    private static void fortyUses() {
        WordSenses x = new WordSenses();
        for (int use = 0; use < 40; use++) {
            Check.due("a use of forty", x.use(use, 1900), use);
        }
        int cost = x.cost();
        Check.due("one too many", x.use(0, 1900), NONE);
        Check.due("forty are", x.count(0), 40);
        Check.due("cost as before", x.cost(), cost);
        Check.due("the last is known", x.far(39, 39), 0);
    }

    private static void cheapestPlace() {
        WordSenses x = new WordSenses();
        x.prices(4, 1);
        x.use(0b000111, 1900);
        Check.due("the first is by itself", x.heap(0), 0);
        x.use(0b111000, 1900);
        Check.due("far 6 is dearer than 4", x.heap(1), 1);
        x.use(0b011000, 1900);
        Check.due("far 1 from use 1", x.heap(2), 1);
        x.use(0b000011, 1900);
        Check.due("far 1 from use 0", x.heap(3), 0);
        // to heap 0 it is 1 and 2, to heap 1 it is 6 together with 5
        x.use(0b001111, 1900);
        Check.due("all uses of a heap count", x.heap(4), 0);
        Check.heaps("at last", x, 0, 1, 1, 0, 0);
        Check.due("cost", x.cost(), 4 + 1 + 1 + 2 + 4 + 1);
    }

    private static void gapKeepsOpen() {
        // the second use costs 2 with the first one, and 10 by itself: 8 more
        int[] gaps = {0, 7, 8, 9, 50};
        for (int gap : gaps) {
            WordSenses x = new WordSenses();
            x.prices(10, gap);
            x.use(1, 1900);
            x.use(2, 1900);
            Check.due("gap " + gap, x.heap(1), gap <= 8 ? 0 : NONE);
            Check.due("gap " + gap + ": open ones", x.count(2), gap <= 8 ? 0 : 1);
        }
        // 8 with the first one, 2 by itself
        for (int gap : gaps) {
            WordSenses x = new WordSenses();
            x.prices(2, gap);
            x.use(0b1111, 1900);
            x.use(0b11110000, 1900);
            Check.due("by itself, gap " + gap, x.heap(1), gap <= 6 ? 1 : NONE);
        }
        int[] sets = {0b111111111, 0b1111111111, 0b11111111111};
        int[] heaps = {0, NONE, 1};
        for (int n = 0; n < 3; n++) {
            WordSenses first = new WordSenses();
            first.use(0, 1900);
            first.use(sets[n], 1900);
            Check.due("price 10 and gap 1 at first, far " + (9 + n), first.heap(1), heaps[n]);
        }
        WordSenses x = new WordSenses();
        x.prices(200, 50);
        x.use(1, 1900);
        Check.due("a first use has no next place", x.heap(0), 0);
        x.fix(0, NONE);
        x.use(1, 1900);
        Check.due("nor one beside open ones", x.heap(1), 1);
    }

    private static void likePlaces() {
        int[] two = {1, 2};
        int[] alone = {0, 1};
        WordSenses x = Check.laid(two, alone);
        x.use(0, 1900);
        Check.due("like heaps, gap 1", x.heap(2), NONE);
        x.prices(10, 0);
        x.use(0, 1900);
        Check.due("like heaps, gap 0", x.heap(3), 0);
        WordSenses y = Check.laid(two, alone);
        y.prices(1, 0);
        y.use(0, 1900);
        Check.due("by itself is the last of like ones", y.heap(2), 0);
        WordSenses z = Check.laid(two, alone);
        z.prices(0, 0);
        z.use(1, 1900);
        Check.due("price 0, far 0", z.heap(2), 0);
        z.use(8, 1900);
        Check.due("price 0, far 2", z.heap(3), 3);
    }

    private static void wrongPrices() {
        WordSenses x = new WordSenses();
        x.use(1, 1900);
        int[][] wrong = {{-1, 0}, {201, 0}, {0, -1}, {0, 51}, {Integer.MAX_VALUE, 0}, {0, Integer.MIN_VALUE}};
        for (int[] pair : wrong) {
            Check.due("prices(" + pair[0] + ", " + pair[1] + ")", x.prices(pair[0], pair[1]), false);
        }
        Check.due("price as at first", x.cost(), 10);
        x.use(2, 1900);
        Check.due("gap as at first", x.heap(1), 0);
        Check.due("prices(0, 0)", x.prices(0, 0), true);
        Check.due("cost, price 0", x.cost(), 2);
        Check.due("prices(200, 50)", x.prices(200, 50), true);
        Check.due("cost, price 200", x.cost(), 202);
    }

    private static void weightsCountForUsesThatLie() {
        WordSenses x = Check.laid(new int[] {1, 3, 2}, new int[] {0, 0, 0});
        Check.due("cost", x.cost(), 10 + 1 + 2 + 1);
        x.weight(0, 9);
        Check.due("cost, heavier", x.cost(), 10 + 1 + 10 + 9);
        Check.due("settle", x.settle(1), 1);
        Check.heaps("use 0 costs 11 there, and 10 by itself", x, 0, 1, 1);
    }
}
