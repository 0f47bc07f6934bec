/** Promises 2 (weight), 3 (prices), 4 (marks): a method for each sentence that names an edge. */
public final class EdgesOfNumbersTest {
    private static final int NONE = WordSenses.NONE;

    public static void main(String[] args) {
        neighboursAre0To19();
        noSuchNeighbour();
        weightsAre1To9();
        weightThatCantBe();
        weightsAre1AtFirst();
        pricesAre0To200();
        priceThatCantBe();
        priceIs10AtFirst();
        gapsAre0To50();
        gapThatCantBe();
        gapIs1AtFirst();
        sharesAre0To100();
        shareThatCantBe();
        shareIs60AtFirst();
        fewAre0To9();
        fewThatCantBe();
        fewIs1AtFirst();
        weightsOfTheFullObject();
        pricesOfTheFullObject();
        Check.end();
    }

    /** NEIGHBOURS are 0 .. 19 (bits), each with a WEIGHT. */
    private static void neighboursAre0To19() {
        for (int n = 0; n <= 19; n++) {
            WordSenses x = new WordSenses();
            x.use(0, 1900);
            x.use(1 << n, 1900);
            x.use(1048575 ^ 1 << n, 1900);
            Check.due("weight(" + n + ", 7)", x.weight(n, 7), true);
            Check.due("neighbour " + n + " weighs 7", x.far(0, 1), 7);
            Check.due("all others weigh 1, beside " + n, x.far(0, 2), 19);
        }
    }

    /** weight: false if there is no such NEIGHBOUR. */
    private static void noSuchNeighbour() {
        for (int n : Check.outside(0, 19)) {
            Twins.refused("weight(" + n + ", 5)", false, x -> x.weight(n, 5) ? 1 : 0);
        }
    }

    /** A WEIGHT (1 .. 9). */
    private static void weightsAre1To9() {
        WordSenses x = new WordSenses();
        x.use(0, 1900);
        x.use(1 | 1 << 19, 1900);
        for (int weight = 9; weight >= 1; weight--) {
            Check.due("weight(0, " + weight + ")", x.weight(0, weight), true);
            Check.due("far by weight " + weight, x.far(0, 1), weight + 1);
        }
        for (int weight = 1; weight <= 9; weight++) {
            Check.due("weight(19, " + weight + ")", x.weight(19, weight), true);
            Check.due("far by weight " + weight + " of 19", x.far(0, 1), 1 + weight);
        }
    }

    /** weight: false if it can't be. */
    private static void weightThatCantBe() {
        for (int weight : Check.outside(1, 9)) {
            Twins.refused("weight(0, " + weight + ")", false, x -> x.weight(0, weight) ? 1 : 0);
        }
        Twins.refused("weight(19, 10)", false, x -> x.weight(19, 10) ? 1 : 0);
        Twins.refused("weight(20, 0)", false, x -> x.weight(20, 0) ? 1 : 0);
        Twins.refused("weight(9, 20)", false, x -> x.weight(9, 20) ? 1 : 0);
    }

    /** 1 at first. */
    private static void weightsAre1AtFirst() {
        WordSenses x = new WordSenses();
        x.use(0, 1900);
        for (int n = 0; n <= 19; n++) {
            x.use(1 << n, 1900);
            Check.due("weight of " + n + " at first", x.far(0, n + 1), 1);
        }
    }

    /** PRICE (0 .. 200). */
    private static void pricesAre0To200() {
        WordSenses x = new WordSenses();
        x.use(1, 1900);
        int[] prices = {0, 1, 2, 100, 127, 128, 199, 200};
        for (int price : prices) {
            Check.due("prices(" + price + ", 0)", x.prices(price, 0), true);
            Check.due("a heap costs " + price, x.cost(), price);
        }
    }

    /** prices: false if they can't be. The gaps beside it could be, and must not be kept. */
    private static void priceThatCantBe() {
        for (int price : Check.outside(0, 200)) {
            Twins.refused("prices(" + price + ", 1)", false, x -> x.prices(price, 1) ? 1 : 0);
            Twins.refused("prices(" + price + ", 0)", 0, x -> x.prices(price, 0) ? 1 : 0, Scenes::priced);
            Twins.refused("prices(" + price + ", 50)", 0, x -> x.prices(price, 50) ? 1 : 0, Scenes::priced);
        }
    }

    /** PRICE: 10 at first. */
    private static void priceIs10AtFirst() {
        WordSenses x = new WordSenses();
        x.use(1, 1900);
        Check.due("a heap costs 10 at first", x.cost(), 10);
    }

    /** GAP (0 .. 50): it stays OPEN if the next cheapest costs less than GAP more. */
    private static void gapsAre0To50() {
        for (int gap = 0; gap <= 50; gap++) {
            Check.due("gap " + gap + ", just so much more", laidWithMore(gap, gap), 0);
            if (gap > 0) {
                Check.due("gap " + gap + ", one less", laidWithMore(gap - 1, gap), NONE);
            }
        }
    }

    /** The heap of a use that costs nothing in heap 0, and so much by itself. */
    private static int laidWithMore(int more, int gap) {
        WordSenses x = new WordSenses();
        x.use(1, 1900);
        Check.due("prices(" + more + ", " + gap + ")", x.prices(more, gap), true);
        x.use(1, 1900);
        return x.heap(1);
    }

    /** prices: false if they can't be. The prices beside it could be, and must not be kept. */
    private static void gapThatCantBe() {
        for (int gap : Check.outside(0, 50)) {
            Twins.refused("prices(9, " + gap + ")", false, x -> x.prices(9, gap) ? 1 : 0);
            Twins.refused("prices(3, " + gap + ")", 0, x -> x.prices(3, gap) ? 1 : 0, Scenes::priced);
            Twins.refused("prices(0, " + gap + ")", 0, x -> x.prices(0, gap) ? 1 : 0, Scenes::priced);
            Twins.refused("prices(200, " + gap + ")", 0, x -> x.prices(200, gap) ? 1 : 0, Scenes::priced);
        }
        Twins.refused("prices(-1, -1)", false, x -> x.prices(-1, -1) ? 1 : 0);
        Twins.refused("prices(201, 51)", false, x -> x.prices(201, 51) ? 1 : 0);
        Twins.refused("prices(50, 200)", false, x -> x.prices(50, 200) ? 1 : 0);
    }

    /** GAP: 1 at first. */
    private static void gapIs1AtFirst() {
        int[] sets = {(1 << 9) - 1, (1 << 10) - 1, (1 << 11) - 1};
        int[] heaps = {0, NONE, 1};
        for (int n = 0; n < 3; n++) {
            WordSenses x = new WordSenses();
            x.use(0, 1900);
            x.use(sets[n], 1900);
            Check.due("gap at first, " + (9 + n) + " in heap 0 and 10 by itself", x.heap(1), heaps[n]);
        }
    }

    /** SHARE (0 .. 100): at least so many parts of 100. */
    private static void sharesAre0To100() {
        // neighbour 0: none of 40, 1: one, 2: thirty-nine, 3: all
        int[] sets = new int[40];
        for (int use = 0; use < 40; use++) {
            sets[use] = 0b1000 | (use > 0 ? 0b0100 : 0b0010);
        }
        WordSenses x = Check.laid(sets, new int[40]);
        int[] shares = {0, 1, 2, 3, 97, 98, 99, 100};
        int[] names = {1, 2, 2, 4, 4, 8, 8, 8};
        for (int n = 0; n < shares.length; n++) {
            Check.due("marks(" + shares[n] + ", 0)", x.marks(shares[n], 0), true);
            Check.due("name by share " + shares[n], x.name(0), names[n]);
        }
    }

    /** marks: false if they can't be. What is beside it could be, and must not be kept. */
    private static void shareThatCantBe() {
        for (int share : Check.outside(0, 100)) {
            Twins.refused("marks(" + share + ", 3)", false, x -> x.marks(share, 3) ? 1 : 0);
            Twins.refused("marks(" + share + ", 0)", 0, x -> x.marks(share, 0) ? 1 : 0, Scenes::marked);
            Twins.refused("marks(" + share + ", 2)", 0, x -> x.marks(share, 2) ? 1 : 0, Scenes::marked);
            Twins.refused("marks(" + share + ", 9)", 0, x -> x.marks(share, 9) ? 1 : 0, Scenes::marked);
        }
        WordSenses x = Scenes.marked();
        Check.due("the name that share tells", x.name(0), 2);
        Check.due("the name that few tell", x.name(4), 2048);
    }

    /** SHARE: 60 at first. */
    private static void shareIs60AtFirst() {
        // neighbour 0 is in 3 of 5; neighbour 1 in 19 of 32, which is more than 59 parts
        WordSenses x = Check.laid(new int[] {1, 1, 1, 0, 0}, new int[5]);
        Check.due("60 parts at first", x.name(0), 1);
        int[] sets = new int[32];
        for (int use = 0; use < 19; use++) {
            sets[use] = 2;
        }
        WordSenses y = Check.laid(sets, new int[32]);
        Check.due("59.4 parts at first", y.name(0), 0);
        y.marks(59, 1);
        Check.due("59.4 parts by share 59", y.name(0), 2);
    }

    /** FEW (0 .. 9): at most so many USES that aren't in it. */
    private static void fewAre0To9() {
        for (int few = 0; few <= 9; few++) {
            Check.due("few " + few + ", just so many others", nameWithOthers(few, few), 1);
            Check.due("few " + few + ", one other more", nameWithOthers(few + 1, few), 0);
        }
    }

    /** The name of heap 0, whose neighbour so many others have. */
    private static int nameWithOthers(int others, int few) {
        int[] sets = new int[12];
        int[] heaps = new int[12];
        sets[0] = 1;
        for (int use = 1; use < 12; use++) {
            sets[use] = use <= others ? 1 : 0;
            heaps[use] = 1;
        }
        WordSenses x = Check.laid(sets, heaps);
        Check.due("marks(100, " + few + ")", x.marks(100, few), true);
        return x.name(0);
    }

    /** marks: false if they can't be. What is beside it could be, and must not be kept. */
    private static void fewThatCantBe() {
        for (int few : Check.outside(0, 9)) {
            Twins.refused("marks(70, " + few + ")", false, x -> x.marks(70, few) ? 1 : 0);
            Twins.refused("marks(0, " + few + ")", 0, x -> x.marks(0, few) ? 1 : 0, Scenes::marked);
            Twins.refused("marks(50, " + few + ")", 0, x -> x.marks(50, few) ? 1 : 0, Scenes::marked);
            Twins.refused("marks(100, " + few + ")", 0, x -> x.marks(100, few) ? 1 : 0, Scenes::marked);
        }
        Twins.refused("marks(-1, -1)", false, x -> x.marks(-1, -1) ? 1 : 0);
        Twins.refused("marks(101, 10)", false, x -> x.marks(101, 10) ? 1 : 0);
        Twins.refused("marks(9, 100)", false, x -> x.marks(9, 100) ? 1 : 0);
    }

    /** FEW: 1 at first. */
    private static void fewIs1AtFirst() {
        WordSenses one = Check.laid(new int[] {1, 1}, new int[] {0, 1});
        Check.due("one other at first", one.name(0), 1);
        WordSenses two = Check.laid(new int[] {1, 1, 1}, new int[] {0, 1, 1});
        Check.due("two others at first", two.name(0), 0);
    }

    /** A WEIGHT: true, with forty uses too; what lies already is as far as the new weights say. */
    private static void weightsOfTheFullObject() {
        WordSenses x = Scenes.full();
        int[] weights = new int[20];
        for (int n = 0; n <= 19; n++) {
            weights[n] = 1 + n % 9;
            Check.due("weight(" + n + ", " + weights[n] + ") of forty", x.weight(n, weights[n]), true);
        }
        for (int use = 0; use < 40; use++) {
            int other = 39 - use;
            int unlike = Scenes.setOfFull(use) ^ Scenes.setOfFull(other);
            int sum = 0;
            for (int n = 0; n <= 19; n++) {
                sum += (unlike >> n) % 2 * weights[n];
            }
            Check.due("far(" + use + ", " + other + ") of forty", x.far(use, other), sum);
        }
    }

    /** PRICE and GAP: true, with forty uses too. */
    private static void pricesOfTheFullObject() {
        WordSenses x = Scenes.full();
        int cost = x.cost();
        Check.due("prices(200, 50) of forty", x.prices(200, 50), true);
        Check.due("five heaps of 190 more", x.cost(), cost + 5 * 190);
        Check.due("prices(0, 0) of forty", x.prices(0, 0), true);
        Check.due("five heaps of 10 less", x.cost(), cost - 5 * 10);
    }
}
