/** Promise 9 (settle, by the STEPS of SETTLING): a method for each sentence that names an edge. */
public final class EdgesOfSettleTest {
    private static final int NONE = WordSenses.NONE;

    public static void main(String[] args) {
        nIs0To100();
        anotherN();
        asLongAsOneBetters();
        noneBettersOfForty();
        layingsFirst();
        movesAheadOfMelts();
        eachStepIsTheFirst();
        manyStepsAreOneByOne();
        layingsByNumbers();
        layingsToHeapsThenByItself();
        layingsOfLikePlaces();
        layingsKnowNoGap();
        layingsBreakNoMore();
        layingsOfOpenOnesBound();
        layingsWithoutAPlace();
        movesByNumbers();
        movesToHeapsThenByItself();
        movesNotByItselfIfSo();
        movesOfLikeCost();
        movesThatMend();
        movesThatBreakAsMany();
        movesThatBreakMore();
        meltsInOrder();
        meltsOfLikeCost();
        meltsThatMend();
        meltsThatBreakAsMany();
        meltsThatBreakMore();
        Check.end();
    }

    /** Forty uses in one heap that better by more than a hundred steps. */
    private static WordSenses farFromSettled() {
        WordSenses x = new WordSenses();
        for (int use = 0; use < 40; use++) {
            x.use(use % 4, 1900);
        }
        for (int use = 0; use < 40; use++) {
            x.fix(use, 0);
        }
        x.prices(0, 0);
        return x;
    }

    /** STEPS, n at most (0 .. 100): how many. */
    private static void nIs0To100() {
        int[] numbers = {1, 2, 3, 50, 99, 100};
        for (int n : numbers) {
            WordSenses x = farFromSettled();
            Check.due("settle(" + n + ")", x.settle(n), n);
            Check.due("steps of settle(" + n + ")", x.count(5), n);
            Check.due("one step more", x.settle(1), 1);
        }
        Twins.refused("settle(0) of none", 0, x -> x.settle(0), Scenes::empty);
        Twins.refused("settle(0) of some", 0, x -> x.settle(0), Scenes::some);
        Twins.refused("settle(0) of forty", 0, x -> x.settle(0), Scenes::full);
    }

    /** settle: NONE for another n. */
    private static void anotherN() {
        for (int n : Check.outside(0, 100)) {
            Twins.refused("settle(" + n + ")", NONE, x -> x.settle(n));
        }
        Check.due("some could be settled", Scenes.some().settle(1), 1);
        Check.due("forty could be settled", Scenes.full().settle(1), 1);
    }

    /** As long as one BETTERS. */
    private static void asLongAsOneBetters() {
        WordSenses x = Check.laid(new int[] {1, 1, 1}, new int[] {0, 1, 2});
        Check.due("two steps are there", x.settle(100), 2);
        Check.due("none is left", x.settle(100), 0);
        Check.due("two steps ever", x.count(5), 2);
        Twins.refused("settle(100) of none", 0, y -> y.settle(100), Scenes::empty);
        WordSenses one = new WordSenses();
        one.use(1, 1900);
        Check.due("one use by itself", one.settle(100), 0);
    }

    /** .. of the full object too: where none BETTERS, all are looked at, to the last. */
    private static void noneBettersOfForty() {
        WordSenses one = new WordSenses();
        WordSenses many = new WordSenses();
        one.prices(10, 0);
        many.prices(0, 0);
        for (int use = 0; use < 40; use++) {
            one.use(1, 1900);
            many.use(use, 1900);
        }
        Check.due("one heap", one.count(1), 1);
        Check.due("one heap of forty", one.settle(100), 0);
        Check.due("forty heaps", many.count(1), 40);
        Check.due("forty heaps of one", many.settle(100), 0);
        many.prices(2, 0);
        many.fix(39, NONE);
        Check.due("the last use is laid", many.settle(1), 1);
        Check.due("where it costs least, of like ones the first", many.heap(39), 7);
        WordSenses last = Check.laid(new int[40], new int[40]);
        last.fix(39, 39);
        Check.due("the last use is moved", last.settle(100), 1);
        Check.due("into the heap of all", last.size(0), 40);
    }

    /** The first of these that BETTERS: LAYINGS ahead of MOVES. */
    private static void layingsFirst() {
        WordSenses x = Check.laid(new int[] {1, 1, 4}, new int[] {0, 1, NONE});
        Check.due("settle(1)", x.settle(1), 1);
        Check.heaps("a laying, not a move of use 0", x, 0, 1, 0);
    }

    /** .. MOVES ahead of MELTS. */
    private static void movesAheadOfMelts() {
        WordSenses x = Check.laid(new int[] {1, 1, 1, 1, 1}, new int[] {0, 0, 2, 2, 4});
        Check.due("settle(1)", x.settle(1), 1);
        Check.heaps("a move of use 4, not a melt of 0 and 2", x, 0, 0, 2, 2, 0);
        Check.due("settle(1)", x.settle(1), 1);
        Check.heaps("then a melt", x, 0, 0, 0, 0, 0);
    }

    /** The first of these that BETTERS is made, at each step: what did not better ahead of it may do so now. */
    private static void eachStepIsTheFirst() {
        // use 0 costs 5, and 5 + 4 in heap 1, until use 1 comes to it; uses 3 and 4 could part all the time
        int[] sets = {0, 0b11111, 0b1111 << 5, 0b11111 << 9, 0b11111 << 14};
        WordSenses x = Check.laid(sets, new int[] {0, 1, 1, 3, 3});
        x.prices(5, 1);
        Check.due("settle(2)", x.settle(2), 2);
        Check.heaps("use 1 to heap 0, then use 0 to heap 2", x, 0, 1, 0, 3, 3);
        // use 2 must be with 0 and with 1: it has a place when these are in one
        int[] bound = {1, 1, 1, 0b111111111, 0b111111111 << 9};
        WordSenses y = Check.laid(bound, new int[] {0, 1, NONE, 3, 3});
        y.bond(2, 0, true);
        y.bond(2, 1, true);
        Check.due("settle(2)", y.settle(2), 2);
        Check.heaps("a move of use 0, then a laying of use 2", y, 0, 0, 0, 3, 3);
    }

    /** STEPS of one call are those of many calls. */
    private static void manyStepsAreOneByOne() {
        for (int scene = 0; scene < 3; scene++) {
            WordSenses many = scene == 0 ? Scenes.some() : scene == 1 ? Scenes.full() : farFromSettled();
            WordSenses single = scene == 0 ? Scenes.some() : scene == 1 ? Scenes.full() : farFromSettled();
            int steps = many.settle(60);
            int made = 0;
            for (int step = 0; step < 60; step++) {
                made += single.settle(1);
            }
            Check.due("steps of scene " + scene, made, steps);
            Check.due("steps ever of scene " + scene, single.count(5), many.count(5));
            for (int use = 0; use < many.count(0); use++) {
                Check.due("heap(" + use + ") of scene " + scene, single.heap(use), many.heap(use));
            }
        }
    }

    /** LAYINGS of USES that are OPEN, by numbers. */
    private static void layingsByNumbers() {
        WordSenses x = Check.laid(new int[] {1, 1048575, 1, 1}, new int[] {0, NONE, NONE, NONE});
        Check.due("settle(1)", x.settle(1), 1);
        Check.heaps("use 1, though use 2 costs less", x, 0, 1, NONE, NONE);
        Check.due("settle(1)", x.settle(1), 1);
        Check.heaps("use 2", x, 0, 1, 0, NONE);
        WordSenses all = Check.laid(new int[] {1, 1}, new int[] {NONE, NONE});
        all.prices(200, 50);
        Check.due("settle(1)", all.settle(1), 1);
        Check.heaps("no heap is there: by itself", all, 0, NONE);
    }

    /** To that place (HEAPS, then by itself) which costs least. */
    private static void layingsToHeapsThenByItself() {
        // heap 0 costs 5, heap 1 costs 3, by itself what the price is
        int[] prices = {2, 3, 4};
        int[] places = {2, 1, 1};
        for (int n = 0; n < 3; n++) {
            WordSenses x = Check.laid(new int[] {0b11111, 0b111, 0}, new int[] {0, 1, NONE});
            x.prices(prices[n], 1);
            Check.due("settle(1)", x.settle(1), 1);
            Check.due("5, 3, and by itself " + prices[n], x.heap(2), places[n]);
        }
        WordSenses y = Check.laid(new int[] {0b111, 0b111, 0b11111, 0}, new int[] {0, 0, 2, NONE});
        y.settle(1);
        Check.due("3 and 3 together are more than 5", y.heap(3), 2);
    }

    /** Of like ones the first. */
    private static void layingsOfLikePlaces() {
        WordSenses x = Check.laid(new int[] {7, 1, 2, 0}, new int[] {0, 1, 2, NONE});
        x.settle(1);
        Check.due("heaps 1 and 2 alike", x.heap(3), 1);
        WordSenses y = Check.laid(new int[] {7, 1, 0}, new int[] {0, 1, NONE});
        y.prices(1, 0);
        y.settle(1);
        Check.due("heap 1 and by itself alike", y.heap(2), 1);
        WordSenses z = Check.laid(new int[] {0, 0}, new int[] {0, NONE});
        z.prices(0, 0);
        z.settle(1);
        Check.due("heap 0 and by itself for nothing", z.heap(1), 0);
    }

    /** GAP is for USES that come: it leaves none OPEN here. */
    private static void layingsKnowNoGap() {
        WordSenses x = new WordSenses();
        x.prices(10, 50);
        x.use(1, 1900);
        x.use(1, 1900);
        Check.due("it came and stayed open", x.heap(1), NONE);
        Check.due("settle(1)", x.settle(1), 1);
        Check.due("it is laid", x.heap(1), 0);
    }

    /** .. of those by which no more BONDS are broken than ahead of it. */
    private static void layingsBreakNoMore() {
        int[] sets = {1, 1, 1048575, 1};
        WordSenses x = Check.laid(sets, new int[] {0, 0, 2, NONE});
        x.bond(3, 0, false);
        x.settle(1);
        Check.due("mustn't be in heap 0", x.heap(3), 3);
        WordSenses y = Check.laid(sets, new int[] {0, 0, 2, NONE});
        y.bond(2, 3, true);
        y.settle(1);
        Check.due("must be in heap 2, the dearest", y.heap(3), 2);
        WordSenses z = Check.laid(sets, new int[] {0, 0, 2, NONE});
        z.bond(0, 3, true);
        z.prices(0, 0);
        z.weight(19, 9);
        z.settle(1);
        Check.due("must be in heap 0, not by itself", z.heap(3), 0);
        // one bond is broken ahead of it: as many are no more
        WordSenses w = Check.laid(sets, new int[] {0, 0, 2, NONE});
        w.bond(0, 1, false);
        w.bond(1, 2, true);
        w.bond(3, 1, true);
        Check.due("two are broken ahead of it", w.broken(), 2);
        w.settle(1);
        Check.due("to heap 0", w.heap(3), 0);
        Check.due("two are broken", w.broken(), 2);
    }

    /** BONDS with others that are OPEN don't count for a laying. */
    private static void layingsOfOpenOnesBound() {
        WordSenses x = Check.laid(new int[] {1, 1, 1048575}, new int[] {0, NONE, NONE});
        x.bond(1, 2, true);
        x.prices(0, 0);
        Check.due("settle(1)", x.settle(1), 1);
        Check.heaps("use 1, bound to an open one, to heap 0", x, 0, 0, NONE);
        Check.due("settle(1)", x.settle(1), 1);
        Check.heaps("use 2 where use 1 is, however dear", x, 0, 0, 0);
    }

    /** It BETTERS if there is such a place: else the next step is looked for. */
    private static void layingsWithoutAPlace() {
        // use 2 must be in two heaps at once, which mustn't be one
        int[] sets = {1, 2, 1, 1, 1};
        WordSenses x = Check.laid(sets, new int[] {0, 1, NONE, NONE, 4});
        x.bond(2, 0, true);
        x.bond(2, 1, true);
        x.bond(0, 1, false);
        x.bond(4, 0, false);
        x.bond(4, 1, false);
        Check.due("settle(1)", x.settle(1), 1);
        Check.heaps("use 3 is laid", x, 0, 1, NONE, 0, 4);
        Check.due("no step is left", x.settle(100), 0);
        x.free(4, 1);
        Check.due("settle(1)", x.settle(1), 1);
        Check.heaps("a move, and use 2 is open still", x, 0, 1, NONE, 0, 1);
        // by itself breaks a bond, and so does each heap
        WordSenses y = Check.laid(new int[] {1, 1, 1}, new int[] {0, 0, NONE});
        y.bond(0, 2, true);
        y.bond(1, 2, false);
        y.bond(0, 1, true);
        Check.due("no place", y.settle(100), 0);
        Check.due("it stays open", y.heap(2), NONE);
    }

    /** MOVES of USES that aren't OPEN, by numbers. */
    private static void movesByNumbers() {
        // each costs 6 where it is, 6 in the other heap, 5 by itself
        WordSenses x = Check.laid(new int[] {0b111, 0b111000, 0b111000, 0b111}, new int[] {0, 1, 0, 1});
        x.prices(5, 1);
        Check.due("settle(1)", x.settle(1), 1);
        Check.heaps("use 0 is moved", x, 0, 1, 2, 1);
    }

    /** .. to other HEAPS by their least USES, then by itself: the first that BETTERS, not the best. */
    private static void movesToHeapsThenByItself() {
        // use 0 costs 6 now, 3 in heap 2, 1 in heap 3, 2 by itself
        WordSenses x = Check.laid(new int[] {0, 0b111111, 0b111, 0b1}, new int[] {0, 0, 2, 3});
        x.prices(2, 1);
        Check.due("settle(1)", x.settle(1), 1);
        Check.heaps("to heap 2", x, 0, 1, 0, 3);
        // heap 2 costs 6 as now
        WordSenses y = Check.laid(new int[] {0, 0b111111, 0b111111, 0b1}, new int[] {0, 0, 2, 3});
        y.prices(2, 1);
        y.bond(0, 2, false);
        y.bond(1, 2, false);
        Check.due("settle(1)", y.settle(1), 1);
        Check.heaps("to heap 3", y, 0, 1, 2, 0);
        // no heap betters
        WordSenses z = Check.laid(new int[] {0, 0b111111, 0b111111}, new int[] {0, 0, 2});
        z.prices(2, 1);
        Check.due("settle(1)", z.settle(1), 1);
        Check.heaps("by itself", z, 0, 1, 2);
    }

    /** .. by itself (if it isn't so). */
    private static void movesNotByItselfIfSo() {
        WordSenses x = Check.laid(new int[] {1, 1048575}, new int[] {0, 1});
        Check.due("both are so", x.settle(100), 0);
        x.prices(0, 0);
        Check.due("for nothing, too", x.settle(100), 0);
        Check.due("no steps", x.count(5), 0);
    }

    /** MOVES BETTER if as many are broken and COST is less: 1 less betters, like ones don't. */
    private static void movesOfLikeCost() {
        // use 0 costs 3 now and by itself; in heap 2 as many as the last set has
        WordSenses like = Check.laid(new int[] {0, 0b111, 0b111000}, new int[] {0, 0, 2});
        like.prices(3, 1);
        Check.due("3 in heap 2", like.settle(100), 0);
        WordSenses less = Check.laid(new int[] {0, 0b111, 0b11000}, new int[] {0, 0, 2});
        less.prices(3, 1);
        Check.due("2 in heap 2", less.settle(100), 1);
        Check.heaps("to heap 2", less, 0, 1, 0);
        like.prices(2, 1);
        Check.due("2 by itself", like.settle(1), 1);
        Check.heaps("by itself", like, 0, 1, 2);
    }

    /** .. or if fewer BONDS are broken then, though COST is more. */
    private static void movesThatMend() {
        WordSenses x = Check.laid(new int[] {1, 1, 1048575}, new int[] {0, 0, 2});
        x.bond(0, 2, true);
        x.prices(0, 0);
        Check.due("settle(1)", x.settle(1), 1);
        Check.heaps("to heap 2, where it costs 19", x, 0, 1, 0);
        WordSenses y = Check.laid(new int[] {1, 1}, new int[] {0, 0});
        y.bond(0, 1, false);
        y.prices(200, 0);
        Check.due("settle(1)", y.settle(1), 1);
        Check.heaps("by itself, where it costs 200", y, 0, 1);
    }

    /** As many: other ones may be broken. */
    private static void movesThatBreakAsMany() {
        int[] sets = {0, 0b111, 0b111000};
        int[] lessSets = {0, 0b111, 0b11000};
        WordSenses like = Check.laid(sets, new int[] {0, 0, 2});
        WordSenses less = Check.laid(lessSets, new int[] {0, 0, 2});
        WordSenses[] both = {like, less};
        for (WordSenses x : both) {
            x.prices(3, 1);
            x.bond(0, 1, true);
            x.bond(0, 2, true);
            x.bond(1, 2, false);
            Check.due("one is broken", x.broken(), 1);
        }
        Check.due("as many, like cost", like.settle(100), 0);
        Check.due("as many, 1 less", less.settle(1), 1);
        Check.heaps("to heap 2", less, 0, 1, 0);
        Check.due("one is broken still", less.broken(), 1);
    }

    /** More are never broken, though COST is less. */
    private static void movesThatBreakMore() {
        WordSenses x = Check.laid(new int[] {0, 0b111, 0}, new int[] {0, 0, 2});
        x.prices(1, 1);
        x.bond(0, 1, true);
        Check.due("a must holds it", x.settle(100), 0);
        x.bond(0, 1, false);
        x.fix(0, 0);
        x.bond(0, 2, false);
        Check.due("a mustn't holds it", x.settle(100), 0);
        x.free(0, 2);
        Check.due("settle(1)", x.settle(1), 1);
        Check.heaps("nothing holds it", x, 0, 1, 0);
    }

    /** Three heaps of two each: musts hold the two, so that no move betters. */
    private static WordSenses pairs(int a, int b, int c) {
        WordSenses x = Check.laid(new int[] {a, a, b, b, c, c}, new int[] {0, 0, 2, 2, 4, 4});
        x.bond(0, 1, true);
        x.bond(2, 3, true);
        x.bond(4, 5, true);
        return x;
    }

    /** MELTS of two HEAPS, by the least USES of the one, then of the other one. */
    private static void meltsInOrder() {
        WordSenses x = pairs(1, 1, 1);
        Check.due("settle(1)", x.settle(1), 1);
        Check.heaps("0 and 2", x, 0, 0, 0, 0, 4, 4);
        WordSenses y = pairs(1, 1, 1);
        y.bond(0, 2, false);
        Check.due("settle(1)", y.settle(1), 1);
        Check.heaps("0 and 4, ahead of 2 and 4", y, 0, 0, 2, 2, 0, 0);
        WordSenses z = pairs(1, 1, 1);
        z.bond(0, 2, false);
        z.bond(1, 5, false);
        Check.due("settle(1)", z.settle(1), 1);
        Check.heaps("2 and 4", z, 0, 0, 2, 2, 2, 2);
        // the first that betters: 0 and 2 cost 4 more, 0 and 4 nothing
        WordSenses w = pairs(1, 3, 1);
        Check.due("settle(1)", w.settle(1), 1);
        Check.heaps("0 and 2, though 0 and 4 would be less", w, 0, 0, 0, 0, 4, 4);
        WordSenses mixed = Check.laid(new int[] {1, 1, 1, 1}, new int[] {0, 1, 0, 1});
        Check.due("settle(1)", mixed.settle(1), 1);
        Check.heaps("0 and 1, whose uses lie mixed", mixed, 0, 0, 0, 0);
    }

    /** Two heaps of two each, together 8 more than apart but for one price. */
    private static WordSenses twoPairs(int price) {
        WordSenses x = Check.laid(new int[] {1, 1, 2, 2}, new int[] {0, 0, 2, 2});
        x.bond(0, 1, true);
        x.bond(2, 3, true);
        x.prices(price, 1);
        return x;
    }

    /** MELTS BETTER if as many are broken and COST is less: 1 less betters, like ones don't. */
    private static void meltsOfLikeCost() {
        Check.due("like cost", twoPairs(8).settle(100), 0);
        WordSenses x = twoPairs(9);
        Check.due("1 less", x.settle(100), 1);
        Check.heaps("one heap", x, 0, 0, 0, 0);
        Check.due("cost", x.cost(), 17);
    }

    /** .. or if fewer BONDS are broken then, though COST is more. */
    private static void meltsThatMend() {
        WordSenses x = twoPairs(0);
        x.bond(3, 0, true);
        Check.due("settle(1)", x.settle(1), 1);
        Check.heaps("one heap", x, 0, 0, 0, 0);
        Check.due("more cost", x.cost(), 8);
        Check.due("none is broken", x.broken(), 0);
    }

    /** As many: one is mended, another one broken. */
    private static void meltsThatBreakAsMany() {
        int[] prices = {8, 9};
        for (int price : prices) {
            WordSenses x = twoPairs(price);
            x.bond(0, 2, true);
            x.bond(1, 3, false);
            Check.due("as many, price " + price, x.settle(1), price == 9 ? 1 : 0);
            Check.due("one is broken", x.broken(), 1);
        }
    }

    /** More are never broken, though COST is less. */
    private static void meltsThatBreakMore() {
        WordSenses x = twoPairs(200);
        x.bond(2, 1, false);
        Check.due("a mustn't parts them", x.settle(100), 0);
        x.bond(0, 3, true);
        x.bond(0, 2, false);
        Check.due("one mended, two broken", x.settle(100), 0);
    }
}
