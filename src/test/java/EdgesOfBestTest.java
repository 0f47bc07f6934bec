import java.util.Arrays;

/** Promise 15 (best): a method for each sentence that names an edge. */
public final class EdgesOfBestTest {
    private static final int NONE = WordSenses.NONE;

    public static void main(String[] args) {
        ofNone();
        ofOneToSeven();
        ofMoreThanSeven();
        openOnesToo();
        keepsAllBonds();
        noneIfThereIsNone();
        leastThatCanBe();
        mostThatCanBe();
        heapsOfNowDontMatter();
        Check.end();
    }

    private static int[] all(int value, int number) {
        int[] row = new int[number];
        Arrays.fill(row, value);
        return row;
    }

    private static void bindAll(WordSenses x, int uses, boolean must) {
        for (int a = 0; a < uses; a++) {
            for (int b = 0; b < a; b++) {
                x.bond(a, b, must);
            }
        }
    }

    /** best: NONE if there are none. */
    private static void ofNone() {
        Twins.refused("best() of none", NONE, x -> x.best(), Scenes::empty);
        WordSenses x = new WordSenses();
        x.prices(0, 0);
        Check.due("best() of none, for nothing", x.best(), NONE);
    }

    /** BEST, for 1 to 7 USES. */
    private static void ofOneToSeven() {
        for (int uses = 1; uses <= 7; uses++) {
            WordSenses x = Check.laid(all(1, uses), all(0, uses));
            Check.due("best of " + uses + " alike", x.best(), 10);
            bindAll(x, uses, false);
            Check.due("best of " + uses + " that mustn't", x.best(), 10 * uses);
        }
    }

    /** best: NONE if there are more than 7. */
    private static void ofMoreThanSeven() {
        Check.due("best of 8", Check.laid(all(1, 8), all(0, 8)).best(), NONE);
        Twins.refused("best() of 8, one open", NONE, x -> x.best(), Scenes::some);
        Twins.refused("best() of forty", NONE, x -> x.best(), Scenes::full);
        Check.due("best of 8 open ones", Check.laid(all(1, 8), all(NONE, 8)).best(), NONE);
    }

    /** OPEN ones, too. */
    private static void openOnesToo() {
        WordSenses x = Check.laid(new int[] {1, 1048575, 1}, new int[] {0, NONE, NONE});
        Check.due("an open one far away", x.best(), 20);
        Check.due("best of 7 open ones", Check.laid(all(1, 7), all(NONE, 7)).best(), 10);
        Check.due("best of one open", Check.laid(all(1, 1), all(NONE, 1)).best(), 10);
    }

    /** .. that KEEP all BONDS: of OPEN ones too, for all are laid. */
    private static void keepsAllBonds() {
        WordSenses x = Check.laid(new int[] {1, 1, 0b111111}, new int[] {NONE, NONE, NONE});
        Check.due("without bonds", x.best(), 10 + 5 + 5);
        x.bond(0, 1, false);
        Check.due("a mustn't", x.best(), 10 + 10 + 5);
        x.bond(2, 0, true);
        x.prices(0, 0);
        Check.due("a must", x.best(), 5);
        x.bond(2, 0, false);
        x.bond(2, 1, true);
        Check.due("the other one must", x.best(), 5);
    }

    /** NONE if there is none. */
    private static void noneIfThereIsNone() {
        WordSenses x = Check.laid(all(1, 7), all(0, 7));
        for (int use = 0; use < 6; use++) {
            x.bond(use, use + 1, true);
        }
        Check.due("a chain of musts", x.best(), 10);
        x.bond(0, 6, false);
        Check.due("its ends mustn't", x.best(), NONE);
        x.free(3, 4);
        Check.due("a chain of two parts", x.best(), 20);
    }

    /** The least COST that can be is 0, which is not NONE. */
    private static void leastThatCanBe() {
        WordSenses x = Check.laid(new int[] {1, 2, 4, 8, 16, 32, 64}, all(0, 7));
        x.prices(0, 50);
        Check.due("seven heaps for nothing", x.best(), 0);
        x.prices(1, 50);
        Check.due("seven heaps of 1", x.best(), 7);
    }

    /** The most that BEST can be. */
    private static void mostThatCanBe() {
        WordSenses x = Check.laid(new int[] {0, 1048575, 0, 1048575, 0, 1048575, 0}, all(0, 7));
        for (int n = 0; n < 20; n++) {
            x.weight(n, 9);
        }
        x.prices(200, 0);
        Check.due("two heaps", x.best(), 400);
        bindAll(x, 7, false);
        Check.due("seven heaps of 200", x.best(), 1400);
        bindAll(x, 7, true);
        Check.due("one heap, three against four", x.best(), 200 + 12 * 180);
    }

    /** Of all ways: how they lie now doesn't matter, and isn't changed. */
    private static void heapsOfNowDontMatter() {
        int[][] ways = {{0, 0, 0}, {0, 1, 2}, {0, 1, 0}, {NONE, 1, 1}};
        for (int[] heaps : ways) {
            WordSenses x = Check.laid(new int[] {1, 1, 6}, heaps);
            x.prices(4, 1);
            Check.due("best", x.best(), 8);
            Check.heaps("as before", x, heaps);
            Check.due("no steps", x.count(5), 0);
            Twins.asked("best()", y -> y.best(), () -> Check.laid(new int[] {1, 1, 6}, heaps));
        }
    }
}
