/** Promise 15 (best). */
public final class BestTest {
    private static final int NONE = WordSenses.NONE;

    public static void main(String[] args) {
        oneToSeven();
        openOnesToo();
        bondsBind();
        noWay();
        changesNothing();
        Check.end();
    }

    private static void oneToSeven() {
        WordSenses x = new WordSenses();
        Check.due("no uses", x.best(), NONE);
        // uses of one neighbour each are 2 apart; n in one heap cost n * (n - 1)
        int[] best = {10, 12, 16, 22, 28, 32, 38};
        for (int use = 0; use < 7; use++) {
            x.use(1 << use, 1900);
            Check.due("best of " + (use + 1), x.best(), best[use]);
        }
        x.prices(0, 0);
        Check.due("heaps for nothing", x.best(), 0);
        x.prices(1, 0);
        Check.due("all by themselves", x.best(), 7);
        x.prices(200, 0);
        Check.due("all in one", x.best(), 200 + 42);
        x.weight(0, 9);
        Check.due("heavier", x.best(), 200 + 42 + 6 * 8);
        x.use(0, 1900);
        Check.due("eight uses", x.best(), NONE);
    }

    private static void openOnesToo() {
        WordSenses x = Check.laid(new int[] {1, 1, 1022}, new int[] {0, NONE, NONE});
        Check.due("cost", x.cost(), 10);
        Check.due("best", x.best(), 20);
        WordSenses y = Check.laid(new int[] {1, 1}, new int[] {NONE, NONE});
        Check.due("all open", y.best(), 10);
    }

    private static void bondsBind() {
        WordSenses x = Check.laid(new int[] {1, 1, 1022}, new int[] {0, 0, 2});
        x.bond(0, 2, true);
        Check.due("must", x.best(), 30);
        x.bond(0, 1, false);
        Check.due("must, and mustn't", x.best(), 30);
        x.free(0, 2);
        x.prices(20, 1);
        Check.due("mustn't", x.best(), 20 + 20 + 10);
        x.bond(1, 2, false);
        Check.due("mustn't twice", x.best(), 20 + 20 + 10);
        x.bond(0, 2, false);
        Check.due("mustn't, all", x.best(), 60);
        x.fix(0, NONE);
        x.fix(2, NONE);
        Check.due("bonds of open ones bind here", x.best(), 60);
    }

    private static void noWay() {
        WordSenses x = Check.laid(new int[] {1, 1, 1}, new int[] {0, 0, 0});
        x.bond(0, 1, true);
        x.bond(1, 2, true);
        x.bond(0, 2, false);
        Check.due("no way", x.best(), NONE);
        x.free(1, 2);
        Check.due("a way", x.best(), 20);
    }

    private static void changesNothing() {
        WordSenses x = Check.laid(new int[] {1, 1, 1022}, new int[] {0, 1, 0});
        int cost = x.cost();
        Check.due("best", x.best(), 20);
        Check.due("best again", x.best(), 20);
        Check.due("cost as before", x.cost(), cost);
        Check.heaps("heaps as before", x, 0, 1, 0);
        Check.due("no steps", x.count(5), 0);
    }
}
