/** Promises 18 (sense), 19 (matched), 20 (sum): a method for each sentence that names an edge. */
public final class EdgesOfDictionaryTest {
    private static final int NONE = WordSenses.NONE;

    public static void main(String[] args) {
        numbersAsTheyCome();
        atMost5();
        sensesAre0To1048575();
        senseThatCantBe();
        asManyAsCanBe();
        noMoreThanHeaps();
        oneToOne();
        leastSum();
        fiveWithTheMostUses();
        ofLikeOnesWithTheLeastUse();
        leastSenseFirst();
        andSoOn();
        noneBehindAll();
        coreAndSenseAreFar();
        noneIsMatched();
        matchedOfNoneSuch();
        sumOfNothing();
        sumOfMost();
        Check.end();
    }

    private static WordSenses alone(int... sets) {
        int[] heaps = new int[sets.length];
        for (int use = 0; use < heaps.length; use++) {
            heaps[use] = use;
        }
        return Check.laid(sets, heaps);
    }

    private static void dictionary(WordSenses x, int... senses) {
        for (int sense = 0; sense < senses.length; sense++) {
            Check.due("sense(" + senses[sense] + ")", x.sense(senses[sense]), sense);
        }
    }

    private static void matches(String when, WordSenses x, int... want) {
        for (int heap = 0; heap < want.length; heap++) {
            Check.due(when + ": matched(" + heap + ")", x.matched(heap), want[heap]);
        }
    }

    /** SENSES of a dictionary have numbers as they come. A refused one takes no number. */
    private static void numbersAsTheyCome() {
        WordSenses x = new WordSenses();
        Check.due("the first", x.sense(7), 0);
        Check.due("a refused one", x.sense(-1), NONE);
        Check.due("the second, like the first", x.sense(7), 1);
        Check.due("two came", x.count(4), 2);
    }

    /** At most 5; sense: NONE if 5 came. */
    private static void atMost5() {
        WordSenses x = alone(1, 2, 4, 8, 16);
        dictionary(x, 2, 4, 8, 16, 1);
        Check.due("five came", x.count(4), 5);
        matches("all five", x, 4, 0, 1, 2, 3);
        Twins.refused("a sixth", NONE, y -> y.sense(1), Scenes::full);
        Twins.refused("a sixth without neighbours", NONE, y -> y.sense(0), Scenes::full);
        Twins.refused("a sixth that can't be", NONE, y -> y.sense(-1), Scenes::full);
    }

    /** Each a set of NEIGHBOURS (0 .. 1048575). */
    private static void sensesAre0To1048575() {
        int[] sets = {0, 1, 1 << 19, 1048574, 1048575};
        for (int set : sets) {
            WordSenses x = alone(0);
            Check.due("sense(" + set + ")", x.sense(set), 0);
            Check.due("so far from none", x.sum(), Integer.bitCount(set));
        }
    }

    /** sense: NONE if it can't be. */
    private static void senseThatCantBe() {
        for (int set : Check.outside(0, 1048575)) {
            Twins.refused("sense(" + set + ")", NONE, x -> x.sense(set));
        }
    }

    /** As many as can be: of up to seven heaps and up to five senses. */
    private static void asManyAsCanBe() {
        for (int heaps = 0; heaps <= 7; heaps++) {
            int[] sets = new int[heaps];
            for (int heap = 0; heap < heaps; heap++) {
                sets[heap] = 1 << heap;
            }
            WordSenses x = alone(sets);
            for (int senses = 0; senses <= 5; senses++) {
                int matched = 0;
                for (int heap = 0; heap < heaps; heap++) {
                    matched += x.matched(heap) == NONE ? 0 : 1;
                }
                int most = Math.min(Math.min(heaps, 5), senses);
                Check.due(heaps + " heaps, " + senses + " senses", matched, most);
                Check.due(heaps + " heaps, " + senses + " senses: each is 19 far", x.sum(), 19 * most);
                x.sense(1048575);
            }
        }
    }

    /** HEAPS to SENSES: uses that are OPEN, or no least ones, get none, and no sum is of them. */
    private static void noMoreThanHeaps() {
        WordSenses x = Check.laid(new int[] {1048575, 1, 1, 1, 1048575}, new int[] {NONE, 1, 1, 1, NONE});
        dictionary(x, 0b11, 0b11, 0b1, 0, 1048575);
        matches("one heap of five uses", x, NONE, 2, NONE, NONE, NONE);
        Check.due("sum of one", x.sum(), 0);
        WordSenses y = Check.laid(new int[] {1048575, 1, 1, 2, 2}, new int[] {NONE, 1, 1, 3, 3});
        dictionary(y, 0, 0b111, 0b111);
        matches("two heaps of five uses", y, NONE, 0, NONE, 1, NONE);
        Check.due("sum of two", y.sum(), 1 + 2);
    }

    /** One to one: a sense that is the nearest of two is given once. */
    private static void oneToOne() {
        WordSenses x = alone(1, 1);
        dictionary(x, 1, 1048575);
        matches("two like heaps", x, 0, 1);
        Check.due("sum", x.sum(), 19);
        WordSenses y = alone(1, 1048575);
        dictionary(y, 1, 1);
        matches("two like senses", y, 0, 1);
        Check.due("sum", y.sum(), 19);
    }

    /** With the least sum: not each with its nearest, nor the first with its nearest. */
    private static void leastSum() {
        WordSenses x = alone(0b1, 0b11);
        dictionary(x, 0b1, 0b0);
        Check.due("0 + 2 as 1 + 1", x.sum(), 2);
        x.weight(0, 9);
        Check.due("0 + 10 as 9 + 1", x.sum(), 10);
        matches("like sums", x, 0, 1);
        WordSenses y = alone(0b0001, 0b1111);
        dictionary(y, 0b0011, 0b0000);
        // 1 + 4 as against 1 + 2
        Check.due("sum", y.sum(), 3);
        matches("the second sense for the first heap", y, 1, 0);
    }

    /** HEAPS (the 5 with the most USES). */
    private static void fiveWithTheMostUses() {
        // heap 0 has one use, heaps 1, 3, 5, 7 and 9 have two
        WordSenses x = Check.laid(new int[] {1, 2, 2, 4, 4, 8, 8, 16, 16, 32, 32},
            new int[] {0, 1, 1, 3, 3, 5, 5, 7, 7, 9, 9});
        dictionary(x, 1);
        matches("heap 0 has too few", x, NONE, 0);
        Check.due("sum", x.sum(), 2);
        x.fix(9, NONE);
        x.fix(10, NONE);
        matches("now it is one of five", x, 0, NONE);
        Check.due("sum of these", x.sum(), 0);
    }

    /** .. of like ones with the least USE. */
    private static void ofLikeOnesWithTheLeastUse() {
        WordSenses x = alone(1, 2, 4, 8, 16, 32);
        dictionary(x, 32);
        matches("heap 5 is the sixth", x, 0, NONE, NONE, NONE, NONE, NONE);
        Check.due("sum", x.sum(), 2);
        x.use(32, 1900);
        x.fix(6, 5);
        matches("heap 5 has the most", x, NONE, NONE, NONE, NONE, NONE, 0);
        Check.due("sum of these", x.sum(), 0);
        x.sense(16);
        matches("heap 4 is the sixth now", x, 1, NONE, NONE, NONE, NONE, 0);
        WordSenses full = Scenes.full();
        for (int use = 0; use < 40; use++) {
            full.fix(use, use);
        }
        for (int heap = 0; heap < 40; heap++) {
            Check.due("of forty heaps: " + heap, full.matched(heap) != NONE, heap < 5);
        }
    }

    /** Of like ones: the first SENSE of the HEAP with the least USE is the least. */
    private static void leastSenseFirst() {
        WordSenses x = alone(1, 2);
        dictionary(x, 0b100, 0b1000);
        matches("like sums", x, 0, 1);
        // the heap with the least use, not the one with the most uses
        WordSenses y = Check.laid(new int[] {1, 2, 2}, new int[] {0, 1, 1});
        dictionary(y, 0b100, 0b1000);
        matches("heap 1 has more uses", y, 0, 1);
        // like sums of 2: 0 with 0, or 0 with 1
        WordSenses z = alone(0b01, 0b10);
        dictionary(z, 0b00, 0b11);
        matches("crossed sums are alike", z, 0, 1);
    }

    /** .. and so on: the second heap is looked at where the first has the same. */
    private static void andSoOn() {
        WordSenses x = alone(1, 2, 4);
        dictionary(x, 0b1, 0b1000, 0b1000);
        matches("the second of three", x, 0, 1, 2);
        WordSenses y = alone(1, 2, 4, 8, 16);
        dictionary(y, 32, 32, 32, 32, 32);
        matches("all alike", y, 0, 1, 2, 3, 4);
        Check.due("sum", y.sum(), 10);
        // heap 0 is nearest to sense 2; 1 and 2 are alike for the others
        WordSenses z = alone(0b111000, 1, 2);
        dictionary(z, 0b11, 0b11, 0b111000);
        matches("the others follow", z, 2, 0, 1);
    }

    /** (none behind all): of like sums a heap with a lesser use gets a sense ahead of another one. */
    private static void noneBehindAll() {
        WordSenses x = alone(1, 2, 4);
        dictionary(x, 0b1000);
        matches("one sense", x, 0, NONE, NONE);
        x.sense(0b1000);
        matches("two senses", x, 0, 1, NONE);
        WordSenses y = alone(0b111000, 1, 2);
        dictionary(y, 0b100);
        matches("the first is farther away", y, NONE, 0, NONE);
        Check.due("sum", y.sum(), 2);
    }

    /** What CORE and SENSE are FAR: by WEIGHTS, and by the core as it is now. */
    private static void coreAndSenseAreFar() {
        WordSenses x = Check.laid(new int[] {0b001, 0b011, 0b101}, new int[] {0, 0, 0});
        dictionary(x, 0b1001);
        Check.due("core 1, sense 9", x.sum(), 1);
        x.weight(3, 9);
        Check.due("heavier", x.sum(), 9);
        x.fix(2, NONE);
        Check.due("core 3", x.sum(), 9 + 1);
    }

    /** matched: NONE if none is. */
    private static void noneIsMatched() {
        WordSenses x = alone(1, 2);
        matches("no senses", x, NONE, NONE);
        Twins.asked("matched(0)", y -> y.matched(0), Scenes::some);
        Twins.asked("matched(4)", y -> y.matched(4), Scenes::some);
        Check.due("a third heap for two senses", Scenes.some().matched(4), NONE);
    }

    /** matched: NONE if there is none such. */
    private static void matchedOfNoneSuch() {
        for (int heap : Check.outside(0, 7)) {
            Twins.refused("matched(" + heap + ")", NONE, x -> x.matched(heap), Scenes::some);
        }
        for (int heap : Check.outside(0, 39)) {
            Twins.refused("matched(" + heap + ") of forty", NONE, x -> x.matched(heap), Scenes::full);
        }
        int[] noLeastOnes = {1, 3, 5, 6, 7};
        for (int use : noLeastOnes) {
            Twins.refused("matched(" + use + "), no least one", NONE, x -> x.matched(use), Scenes::some);
        }
        Twins.refused("matched(0) of none", NONE, x -> x.matched(0), Scenes::empty);
        Check.due("matched(0), a heap", Scenes.some().matched(0), 0);
    }

    /** sum: of none it is 0. */
    private static void sumOfNothing() {
        Twins.refused("sum() of none", 0, x -> x.sum(), Scenes::empty);
        Check.due("heaps without senses", alone(1, 2).sum(), 0);
        WordSenses x = Check.laid(new int[] {1, 2}, new int[] {NONE, NONE});
        dictionary(x, 1048575);
        Check.due("senses without heaps", x.sum(), 0);
    }

    /** sum: the most that can be. */
    private static void sumOfMost() {
        WordSenses x = alone(0, 0, 0, 0, 0, 0, 0);
        dictionary(x, 1048575, 1048575, 1048575, 1048575, 1048575);
        for (int n = 0; n < 20; n++) {
            x.weight(n, 9);
        }
        Check.due("five of 180", x.sum(), 900);
        Twins.asked("sum()", y -> y.sum(), Scenes::full);
    }
}
