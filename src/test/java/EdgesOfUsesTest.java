/** Promises 1 (a new object), 5 (use, and how it is laid), 12 (far): a method for each sentence that names an edge. */
public final class EdgesOfUsesTest {
    private static final int NONE = WordSenses.NONE;

    public static void main(String[] args) {
        newObjectHasNoUses();
        numbersAsTheyCome();
        atMost40();
        neighboursAre0To1048575();
        neighboursThatCantBe();
        yearsAre1800To1999();
        yearThatCantBe();
        farIsOfWhatOneHas();
        farOfMost();
        farOfOpenOnes();
        farOfNoneSuch();
        firstUseHasNoNextPlace();
        heapCostsAllTogether();
        openOnesAreNoPlace();
        likeHeaps();
        byItselfIsTheLast();
        nextCheapestOfHeaps();
        nextCheapestByItself();
        nextCheapestIsAHeap();
        bondsDontLay();
        Check.end();
    }

    /** A new object: No USES. */
    private static void newObjectHasNoUses() {
        WordSenses x = new WordSenses();
        for (int what = 0; what <= 5; what++) {
            Check.due("new: count(" + what + ")", x.count(what), 0);
        }
        Check.due("new: heap(0)", x.heap(0), NONE);
        Check.due("new: size(0)", x.size(0), 0);
        Check.due("new: far(0, 0)", x.far(0, 0), NONE);
        Check.due("new: cost()", x.cost(), 0);
        Check.due("new: broken()", x.broken(), 0);
        Check.due("new: best()", x.best(), NONE);
        Check.due("new: name(0)", x.name(0), 0);
        Check.due("new: core(0)", x.core(0), 0);
        Check.due("new: matched(0)", x.matched(0), NONE);
        Check.due("new: sum()", x.sum(), 0);
        Check.due("new: share(0 ..)", x.share(0, 1800, 1999, 1), NONE);
        Check.due("new: first(0)", x.first(0), NONE);
        Check.due("new: fix(0, 0)", x.fix(0, 0), false);
        Check.due("new: fix(0, NONE)", x.fix(0, NONE), false);
        Check.due("new: bond(0, 1)", x.bond(0, 1, true), false);
        Check.due("new: free(0, 1)", x.free(0, 1), false);
        Check.due("new: settle(100)", x.settle(100), 0);
        x.use(1, 1900);
        Check.due("a second object beside it", new WordSenses().count(0), 0);
    }

    /** USES have numbers as they come. A refused one takes no number. */
    private static void numbersAsTheyCome() {
        WordSenses x = new WordSenses();
        Check.due("the first", x.use(1, 1900), 0);
        Check.due("the second", x.use(1, 1900), 1);
        Check.due("a refused one", x.use(-1, 1900), NONE);
        Check.due("another refused one", x.use(1, 2000), NONE);
        Check.due("the third", x.use(1, 1900), 2);
        x.fix(2, NONE);
        Check.due("behind an open one", x.use(1, 1900), 3);
        Check.due("four came", x.count(0), 4);
    }

    /** At most 40; use: NONE if 40 came. */
    private static void atMost40() {
        WordSenses x = new WordSenses();
        for (int use = 0; use < 40; use++) {
            Check.due("use of forty", x.use(1 << use % 20, 1800 + use), use);
        }
        Check.due("the last is kept", x.far(39, 38), 2);
        Check.due("the last is kept, by its year", x.fix(39, 39) ? x.first(39) : 0, 1839);
        Twins.refused("a use too many", NONE, y -> y.use(1, 1900), Scenes::full);
        Twins.refused("a use too many, without neighbours", NONE, y -> y.use(0, 1800), Scenes::full);
        Twins.refused("a use too many, with all", NONE, y -> y.use(1048575, 1999), Scenes::full);
    }

    /** NEIGHBOURS (0 .. 1048575). */
    private static void neighboursAre0To1048575() {
        int[] sets = {0, 1, 2, 1 << 10, 1 << 19, 1048574, 1048575};
        for (int set : sets) {
            WordSenses x = new WordSenses();
            Check.due("use(" + set + ", 1900)", x.use(set, 1900), 0);
            Check.due("core of " + set, x.core(0), set);
        }
    }

    /** use: NONE if NEIGHBOURS can't be. */
    private static void neighboursThatCantBe() {
        for (int set : Check.outside(0, 1048575)) {
            Twins.refused("use(" + set + ", 1900)", NONE, x -> x.use(set, 1900));
        }
    }

    /** A YEAR (1800 .. 1999). */
    private static void yearsAre1800To1999() {
        for (int year = 1800; year <= 1999; year++) {
            WordSenses x = new WordSenses();
            Check.due("use(1, " + year + ")", x.use(1, year), 0);
            Check.due("the year " + year, x.first(0), year);
        }
    }

    /** use: NONE if YEAR can't be. */
    private static void yearThatCantBe() {
        for (int year : Check.outside(1800, 1999)) {
            Twins.refused("use(5, " + year + ")", NONE, x -> x.use(5, year));
        }
        Twins.refused("use(5, 0)", NONE, x -> x.use(5, 0));
        Twins.refused("use(1900, 5)", NONE, x -> x.use(1900, 5));
        Twins.refused("use(-1, 1799)", NONE, x -> x.use(-1, 1799));
    }

    /** FAR: the WEIGHTS of NEIGHBOURS that one has and the other one hasn't. */
    private static void farIsOfWhatOneHas() {
        WordSenses x = new WordSenses();
        for (int n = 0; n < 4; n++) {
            x.weight(n, 2 + n);
        }
        x.use(0b0011, 1900);
        x.use(0b0101, 1900);
        x.use(0b0011, 1999);
        x.use(0, 1900);
        Check.due("not what both have, nor what none has", x.far(0, 1), 3 + 4);
        Check.due("turned", x.far(1, 0), 3 + 4);
        Check.due("like ones of two years", x.far(0, 2), 0);
        Check.due("with itself", x.far(1, 1), 0);
        Check.due("with one without any", x.far(3, 0), 2 + 3);
    }

    /** FAR, the most that can be. */
    private static void farOfMost() {
        WordSenses x = new WordSenses();
        x.use(0, 1900);
        x.use(1048575, 1900);
        Check.due("all twenty of weight 1", x.far(0, 1), 20);
        for (int n = 0; n <= 19; n++) {
            x.weight(n, 9);
        }
        Check.due("all twenty of weight 9", x.far(1, 0), 180);
    }

    /** FAR is of USES, OPEN or not. */
    private static void farOfOpenOnes() {
        WordSenses x = Check.laid(new int[] {1, 6, 8}, new int[] {NONE, NONE, 2});
        Check.due("of two open ones", x.far(0, 1), 3);
        Check.due("of an open one", x.far(2, 0), 2);
        Check.due("of one with itself", x.far(1, 1), 0);
    }

    /** far: NONE if there is none such. */
    private static void farOfNoneSuch() {
        for (int use : Check.outside(0, 7)) {
            Twins.refused("far(" + use + ", 0)", NONE, x -> x.far(use, 0), Scenes::some);
            Twins.refused("far(7, " + use + ")", NONE, x -> x.far(7, use), Scenes::some);
            Twins.refused("far(same, " + use + ")", NONE, x -> x.far(use, use), Scenes::some);
        }
        for (int use : Check.outside(0, 39)) {
            Check.due("far(" + use + ", 39) of forty", Scenes.full().far(use, 39), NONE);
            Check.due("far(39, " + use + ") of forty", Scenes.full().far(39, use), NONE);
        }
        Check.due("far(39, 39) of forty", Scenes.full().far(39, 39), 0);
    }

    /** It stays OPEN if the next cheapest costs less than GAP more: with one place alone there is no next one. */
    private static void firstUseHasNoNextPlace() {
        int[] prices = {0, 10, 200};
        for (int price : prices) {
            WordSenses x = new WordSenses();
            x.prices(price, 50);
            x.use(1, 1900);
            Check.due("price " + price + ", gap 50", x.heap(0), 0);
        }
    }

    /** It costs FAR of all USES in a HEAP, together. */
    private static void heapCostsAllTogether() {
        // nearest to use 2 in heap 0, but 0 + 3 + 3 there is more than 5 in heap 3
        WordSenses x = Check.laid(new int[] {0b111000, 0b111000, 0, 0b11111}, new int[] {0, 0, 0, 3});
        x.use(0, 1900);
        Check.due("the sum counts", x.heap(4), 3);
        // all in heap 3 together cost 5 + 5, which is more than 0 + 3 + 3
        WordSenses y = Check.laid(new int[] {0b111000, 0b111000, 0, 0b11111, 0b11111}, new int[] {0, 0, 0, 3, 3});
        y.use(0, 1900);
        Check.due("of both heaps", y.heap(5), 0);
    }

    /** It could go to each HEAP, or be one by itself: an OPEN use is no place, and costs nothing. */
    private static void openOnesAreNoPlace() {
        WordSenses x = Check.laid(new int[] {1, 1, 1}, new int[] {NONE, NONE, NONE});
        x.prices(200, 50);
        x.use(1, 1900);
        Check.heaps("all others are open", x, NONE, NONE, NONE, 3);
        WordSenses y = Check.laid(new int[] {1, 1048575}, new int[] {0, NONE});
        y.use(1, 1900);
        Check.heaps("an open one costs nothing", y, 0, NONE, 0);
    }

    /** Of like ones the HEAP with the least USE. */
    private static void likeHeaps() {
        WordSenses x = Check.laid(new int[] {64, 1, 2, 4}, new int[] {NONE, 1, 2, 3});
        x.prices(10, 0);
        x.use(0, 1900);
        Check.due("heaps 1, 2 and 3 alike", x.heap(4), 1);
        // use 0 comes into heap 2, which is heap 0 then
        WordSenses y = Check.laid(new int[] {1, 0b1010, 4}, new int[] {NONE, 1, 2});
        y.fix(0, 2);
        y.prices(10, 0);
        y.use(0, 1900);
        Check.heaps("both heaps cost 2", y, 0, 1, 0, 0);
    }

    /** By itself the last of like ones. */
    private static void byItselfIsTheLast() {
        WordSenses x = Check.laid(new int[] {1, 6}, new int[] {0, 1});
        x.prices(2, 0);
        x.use(2, 1900);
        Check.due("heap 1 costs 1, heap 0 and by itself 2", x.heap(2), 1);
        WordSenses y = Check.laid(new int[] {1, 6}, new int[] {0, 1});
        y.prices(2, 0);
        y.use(8, 1900);
        Check.due("heap 0 costs 2 as by itself", y.heap(2), 0);
        WordSenses z = Check.laid(new int[] {1}, new int[] {0});
        z.prices(0, 0);
        z.use(1, 1900);
        Check.due("heap 0 costs 0 as by itself", z.heap(1), 0);
        z.use(3, 1900);
        Check.due("heap 0 costs 2, by itself 0", z.heap(2), 2);
    }

    /** The next cheapest, where both are heaps: by itself is far dearer. */
    private static void nextCheapestOfHeaps() {
        // heap 0 costs 3, heap 1 costs 1, heap 2 costs 5: 2 more
        for (int gap = 1; gap <= 4; gap++) {
            WordSenses x = Check.laid(new int[] {0b00111, 0b1, 0b11111}, new int[] {0, 1, 2});
            x.prices(200, gap);
            x.use(0, 1900);
            Check.due("heaps of 3, 1 and 5, gap " + gap, x.heap(3), gap <= 2 ? 1 : NONE);
            // the cheapest comes first here, and the next one behind another
            WordSenses y = Check.laid(new int[] {0b1, 0b11111, 0b111}, new int[] {0, 1, 2});
            y.prices(200, gap);
            y.use(0, 1900);
            Check.due("heaps of 1, 5 and 3, gap " + gap, y.heap(3), gap <= 2 ? 0 : NONE);
            WordSenses z = Check.laid(new int[] {0b11111, 0b111, 0b1}, new int[] {0, 1, 2});
            z.prices(200, gap);
            z.use(0, 1900);
            Check.due("heaps of 5, 3 and 1, gap " + gap, z.heap(3), gap <= 2 ? 2 : NONE);
        }
    }

    /** The next cheapest, where it is to be by itself. */
    private static void nextCheapestByItself() {
        for (int gap = 1; gap <= 4; gap++) {
            WordSenses x = Check.laid(new int[] {0b1, 0b11111}, new int[] {0, 1});
            x.prices(3, gap);
            x.use(0, 1900);
            Check.due("heaps of 1 and 5, price 3, gap " + gap, x.heap(2), gap <= 2 ? 0 : NONE);
        }
    }

    /** The next cheapest, where by itself is the cheapest. */
    private static void nextCheapestIsAHeap() {
        for (int gap = 1; gap <= 4; gap++) {
            WordSenses x = Check.laid(new int[] {0b11111, 0b111}, new int[] {0, 1});
            x.prices(1, gap);
            x.use(0, 1900);
            Check.due("heaps of 5 and 3, price 1, gap " + gap, x.heap(2), gap <= 2 ? 2 : NONE);
        }
    }

    /** A USE that comes has no BONDS: where others are bound doesn't matter. */
    private static void bondsDontLay() {
        WordSenses x = Check.laid(new int[] {1, 1, 2}, new int[] {0, 0, 2});
        x.bond(0, 1, false);
        x.bond(0, 2, true);
        x.use(1, 1900);
        Check.due("the cheapest, though its bonds are broken", x.heap(3), 0);
        Check.due("broken as before", x.broken(), 2);
    }
}
