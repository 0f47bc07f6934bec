/** Promises 16 (name), 17 (core): a method for each sentence that names an edge. */
public final class EdgesOfNamesTest {
    private static final int NONE = WordSenses.NONE;

    public static void main(String[] args) {
        setsOf1To3();
        noEmptySet();
        setsOf4AreNone();
        atLeastShare();
        allOfTheSet();
        atMostFew();
        openOnesArentInIt();
        namesOfForty();
        fewestNeighbours();
        leastNumberOfOne();
        leastNumberOfTwo();
        leastNumberOfThree();
        greatestNames();
        nameIfThereIsNone();
        nameOfNoneSuch();
        coreOfHalf();
        coreOfForty();
        coreOfOneAndOfNone();
        coreIsOfTheHeapAlone();
        coreOfNoneSuch();
        Check.end();
    }

    /** Heap 0 of one use, and all others in heap 1: a name must be in the first set, and in no other whole. */
    private static WordSenses oneAgainst(int... sets) {
        int[] heaps = new int[sets.length];
        for (int use = 1; use < heaps.length; use++) {
            heaps[use] = 1;
        }
        WordSenses x = Check.laid(sets, heaps);
        x.marks(100, 0);
        return x;
    }

    /** A set of 1 to 3 NEIGHBOURS. */
    private static void setsOf1To3() {
        Check.due("of one", oneAgainst(0b100, 0b011).name(0), 0b100);
        Check.due("of two", oneAgainst(0b110, 0b100, 0b010).name(0), 0b110);
        Check.due("of three", oneAgainst(0b111, 0b110, 0b101, 0b011).name(0), 0b111);
    }

    /** .. so not of none, though all have it. */
    private static void noEmptySet() {
        WordSenses x = Check.laid(new int[] {0, 0}, new int[] {0, 0});
        Check.due("no use has any", x.name(0), 0);
        x.marks(0, 9);
        Check.due("share 0: a set of one", x.name(0), 1);
    }

    /** .. nor of four, though these would mark it. */
    private static void setsOf4AreNone() {
        WordSenses x = oneAgainst(0b1111, 0b1110, 0b1101, 0b1011, 0b0111);
        Check.due("four would be wanted", x.name(0), 0);
        x.marks(100, 1);
        Check.due("three with one other", x.name(0), 0b0111);
    }

    /** At least SHARE parts of 100 of its USES: parts are not rounded. */
    private static void atLeastShare() {
        int[] have = {1, 2, 1, 3, 5, 1, 6, 12};
        int[] of = {3, 3, 2, 4, 6, 7, 7, 13};
        int[] most = {33, 66, 50, 75, 83, 14, 85, 92};
        for (int n = 0; n < have.length; n++) {
            int[] sets = new int[of[n]];
            for (int use = 0; use < have[n]; use++) {
                sets[use] = 0b10;
            }
            WordSenses x = Check.laid(sets, new int[of[n]]);
            x.marks(most[n], 0);
            Check.due(have[n] + " of " + of[n] + ", share " + most[n], x.name(0), 0b10);
            x.marks(most[n] + 1, 0);
            Check.due(have[n] + " of " + of[n] + ", share " + (most[n] + 1), x.name(0), 0);
        }
    }

    /** (all of the set). */
    private static void allOfTheSet() {
        // each neighbour is in 2 of 3 and in two others, both are in 1 of 3 and in no other
        WordSenses x = Check.laid(new int[] {0b11, 0b01, 0b10, 1, 1, 2, 2}, new int[] {0, 0, 0, 3, 3, 3, 3});
        x.marks(33, 0);
        Check.due("both, in 1 of 3", x.name(0), 0b11);
        x.marks(34, 0);
        Check.due("both, in too few", x.name(0), 0);
        x.marks(66, 2);
        Check.due("one, in 2 of 3", x.name(0), 0b01);
    }

    /** At most FEW USES that aren't in it: counted, not in parts. */
    private static void atMostFew() {
        WordSenses x = Check.laid(new int[] {1, 1, 1, 1, 1, 1, 1, 1, 0}, new int[] {0, 1, 1, 1, 4, 4, 4, 4, 4});
        int[] others = {7, 5, 4};
        int[] heaps = {0, 1, 4};
        for (int n = 0; n < 3; n++) {
            x.marks(60, others[n]);
            Check.due("heap " + heaps[n] + ", few " + others[n], x.name(heaps[n]), 1);
            x.marks(60, others[n] - 1);
            Check.due("heap " + heaps[n] + ", few " + (others[n] - 1), x.name(heaps[n]), 0);
        }
    }

    /** USES that aren't in it: OPEN ones are not, either. */
    private static void openOnesArentInIt() {
        WordSenses x = Check.laid(new int[] {1, 1, 1}, new int[] {0, NONE, NONE});
        Check.due("two open ones at first", x.name(0), 0);
        x.marks(60, 2);
        Check.due("two open ones, few 2", x.name(0), 1);
        x.fix(2, 0);
        x.marks(60, 1);
        Check.due("one open one", x.name(0), 1);
        x.marks(60, 0);
        Check.due("few 0", x.name(0), 0);
    }

    /** .. of forty: the last USES count like the first, in it and beside it. */
    private static void namesOfForty() {
        int[] sets = new int[40];
        int[] heaps = new int[40];
        for (int use = 0; use < 40; use++) {
            sets[use] = use >= 30 && use < 34 || use == 39 ? 0b10 : 0;
            heaps[use] = use < 30 ? 0 : 30;
        }
        WordSenses x = Check.laid(sets, heaps);
        x.marks(0, 5);
        Check.due("a set that no use has", x.name(30), 1);
        x.marks(50, 0);
        Check.due("5 of 10", x.name(30), 0b10);
        x.marks(51, 0);
        Check.due("5 of 10 are too few", x.name(30), 0);
        x.fix(39, 0);
        x.marks(44, 1);
        Check.due("4 of 9, and the last use", x.name(30), 0b10);
        x.marks(44, 0);
        Check.due("the last use is too much", x.name(30), 0);
        x.fix(39, NONE);
        Check.due("also if it is open", x.name(30), 0);
    }

    /** That of the fewest NEIGHBOURS, however great its number. */
    private static void fewestNeighbours() {
        Check.due("one ahead of two", oneAgainst(1 << 19 | 0b11, 0b01, 0b10).name(0), 1 << 19);
        Check.due("two ahead of three",
            oneAgainst(3 << 18 | 0b111, 0b011, 0b101, 0b110, 2 << 18 | 0b111, 1 << 18 | 0b111).name(0), 3 << 18);
    }

    /** Of like ones the least number (bits): of one. */
    private static void leastNumberOfOne() {
        for (int n = 0; n < 20; n++) {
            int from = 1048575 >> n << n;
            Check.due("all from " + n + " on", oneAgainst(from, 0).name(0), 1 << n);
        }
    }

    /** .. of two: by number, not by the least neighbour. */
    private static void leastNumberOfTwo() {
        // of four neighbours only 1 with 2 (6), and 0 with 3 (9), are in no other
        WordSenses x = oneAgainst(0b1111, 0b0011, 0b0101, 0b1010, 0b1100);
        Check.due("6 ahead of 9", x.name(0), 0b0110);
    }

    /** .. of three: by number, not by the least neighbour. */
    private static void leastNumberOfThree() {
        // of 0 .. 4 only 1 2 3 (14), and 0 1 4 (19), are in no other
        WordSenses x = oneAgainst(0b11111, 0b00111, 0b01011, 0b01101, 0b10101, 0b11001, 0b10110, 0b11010, 0b11100);
        Check.due("14 ahead of 19", x.name(0), 0b01110);
        // only 0 3 4 (25), and 1 2 4 (22), are in no other
        WordSenses y = oneAgainst(0b11111, 0b01111, 0b10011, 0b10101, 0b11010, 0b11100);
        Check.due("22 ahead of 25", y.name(0), 0b10110);
    }

    /** The greatest numbers that a NAME can be. */
    private static void greatestNames() {
        Check.due("neighbour 19", oneAgainst(1 << 19, (1 << 19) - 1).name(0), 1 << 19);
        Check.due("18 and 19", oneAgainst(3 << 18, 1 << 18, 1 << 19).name(0), 3 << 18);
        Check.due("17, 18 and 19", oneAgainst(7 << 17, 6 << 17, 5 << 17, 3 << 17).name(0), 7 << 17);
    }

    /** name: 0 if there is none. */
    private static void nameIfThereIsNone() {
        Twins.refused("name(0) without neighbours", 0, x -> x.name(0), () -> oneAgainst(0, 0));
        Twins.refused("name(0) of one like others", 0, x -> x.name(0), () -> oneAgainst(1048575, 1048575));
        Twins.refused("name(0) of unlike ones", 0, x -> x.name(0),
            () -> Check.laid(new int[] {1, 2, 4, 8}, new int[4]));
    }

    /** name: 0 if there is none such. */
    private static void nameOfNoneSuch() {
        for (int heap : Check.outside(0, 7)) {
            Twins.refused("name(" + heap + ")", 0, x -> x.name(heap), Scenes::some);
        }
        for (int heap : Check.outside(0, 39)) {
            Twins.refused("name(" + heap + ") of forty", 0, x -> x.name(heap), Scenes::full);
        }
        int[] noLeastOnes = {1, 3, 5, 6, 7};
        for (int use : noLeastOnes) {
            Twins.refused("name(" + use + "), no least one", 0, x -> x.name(use), Scenes::some);
        }
        Twins.refused("name(0) of none", 0, x -> x.name(0), Scenes::empty);
        Check.due("name(2), a heap", Scenes.some().name(2), 16);
    }

    /** CORE: NEIGHBOURS that at least half of its USES have. */
    private static void coreOfHalf() {
        for (int of = 1; of <= 9; of++) {
            for (int have = 0; have <= of; have++) {
                int[] sets = new int[of];
                for (int use = 0; use < have; use++) {
                    sets[use] = 1 << 19;
                }
                WordSenses x = Check.laid(sets, new int[of]);
                Check.due(have + " of " + of, x.core(0), have + have >= of ? 1 << 19 : 0);
            }
        }
    }

    /** .. of forty: twenty are half, nineteen aren't. */
    private static void coreOfForty() {
        int[] sets = new int[40];
        for (int use = 0; use < 40; use++) {
            sets[use] = (use < 20 ? 1 : 0) | (use < 19 ? 2 : 0) | (use >= 20 ? 1 << 19 : 0) | (use >= 21 ? 4 : 0);
        }
        Check.due("half of forty", Check.laid(sets, new int[40]).core(0), 1 << 19 | 1);
    }

    /** CORE of one USE is all that it has; of a HEAP without NEIGHBOURS it is 0. */
    private static void coreOfOneAndOfNone() {
        WordSenses x = Check.laid(new int[] {1048575, 0, 0b1010}, new int[] {0, 1, 2});
        Check.due("of one that has all", x.core(0), 1048575);
        Check.due("of one that has none", x.core(1), 0);
        Check.due("of one that has two", x.core(2), 0b1010);
    }

    /** .. of its USES: not of OPEN ones, nor of other HEAPS; WEIGHTS don't count. */
    private static void coreIsOfTheHeapAlone() {
        WordSenses x = Check.laid(new int[] {0b1, 0b10, 0b110, 0b100, 0b100}, new int[] {0, 0, 0, 3, NONE});
        x.weight(2, 9);
        x.weight(0, 9);
        Check.due("2 of 3 have 1; others have 2", x.core(0), 0b10);
    }

    /** core: 0 if there is none such. */
    private static void coreOfNoneSuch() {
        for (int heap : Check.outside(0, 7)) {
            Twins.refused("core(" + heap + ")", 0, x -> x.core(heap), Scenes::some);
        }
        for (int heap : Check.outside(0, 39)) {
            Twins.refused("core(" + heap + ") of forty", 0, x -> x.core(heap), Scenes::full);
        }
        int[] noLeastOnes = {1, 3, 5, 6, 7};
        for (int use : noLeastOnes) {
            Twins.refused("core(" + use + "), no least one", 0, x -> x.core(use), Scenes::some);
        }
        Twins.refused("core(0) of none", 0, x -> x.core(0), Scenes::empty);
        Check.due("core(2), a heap", Scenes.some().core(2), 0b1110000);
    }
}
