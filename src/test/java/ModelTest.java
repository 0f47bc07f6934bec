/** Long runs of calls, each answered by WordSenses and by PlainModel alike; the runs are the same every time. */
public final class ModelTest {
    private static final int RUNS = 150;
    // with the questions at the end an object gets at most 512
    private static final int CALLS = 512 - 3 * 42;

    private final WordSenses senses = new WordSenses();
    private final PlainModel model = new PlainModel();
    private final int run;
    private long state;
    // few kinds of neighbours make like costs frequent, few uses keep best() and wrong numbers frequent
    private final int kinds;
    private final int mostUses;
    // some runs begin with nearly all uses and bonds that can be
    private final int firstUses;
    private final int firstBonds;

    private ModelTest(int run) {
        this.run = run;
        state = run * 7919L + 17;
        kinds = 2 + pick(19);
        int sort = pick(3);
        mostUses = sort == 0 ? 7 : sort == 1 ? 14 : 41;
        firstUses = pick(2) == 0 ? mostUses - 2 : 0;
        firstBonds = firstUses > 20 ? 70 : 0;
    }

    public static void main(String[] args) {
        for (int run = 0; run < RUNS; run++) {
            new ModelTest(run).go();
        }
        Check.end();
    }

    private int pick(int bound) {
        state = state * 6364136223846793005L + 1442695040888963407L;
        return (int) ((state >>> 33) % bound);
    }

    private int someUse() {
        int came = model.count(0);
        return pick(25) == 0 ? came + pick(3) : pick(40) == 0 ? -1 - pick(2) : came == 0 ? 0 : pick(came);
    }

    private int someHeap() {
        int use = someUse();
        int heap = model.heap(use);
        return heap == -1 || pick(4) == 0 ? use : heap;
    }

    private int someNeighbours() {
        int set = 0;
        int shift = kinds < 20 ? pick(20 - kinds + 1) : 0;
        for (int n = 0; n < kinds; n++) {
            set |= pick(3) == 0 ? 1 << n : 0;
        }
        return pick(60) == 0 ? -1 : pick(60) == 0 ? 1048576 : pick(2) == 0 ? set : set << shift;
    }

    private void go() {
        for (int call = 0; call < CALLS; call++) {
            if (call < firstUses) {
                newUse();
            } else if (call < firstUses + firstBonds) {
                newBond(someUse(), someUse());
            } else if (pick(2) == 0) {
                change();
            } else {
                ask();
            }
        }
        for (int use = -1; use <= model.count(0); use++) {
            due("heap", use, senses.heap(use), model.heap(use));
            due("name", use, senses.name(use), model.name(use));
            due("matched", use, senses.matched(use), model.matched(use));
        }
    }

    private void due(String call, int argument, long got, long want) {
        Check.due("run " + run + ": " + call + "(" + argument + " ..)", got, want);
    }

    private void due(String call, int argument, boolean got, boolean want) {
        due(call, argument, got ? 1 : 0, want ? 1 : 0);
    }

    private void newUse() {
        int neighbours = someNeighbours();
        int year = 1799 + pick(202);
        if (model.count(0) < mostUses) {
            due("use", neighbours, senses.use(neighbours, year), model.use(neighbours, year));
        }
    }

    private void newBond(int a, int b) {
        boolean must = pick(2) == 0;
        due("bond", a, senses.bond(a, b, must), model.bond(a, b, must));
    }

    private void change() {
        int a = someUse();
        int b = someUse();
        switch (pick(9)) {
            case 0, 1 -> newUse();
            case 2 -> {
                int other = pick(4) == 0 ? -1 : pick(6) == 0 ? a : b;
                due("fix", a, senses.fix(a, other), model.fix(a, other));
            }
            case 3, 4 -> newBond(a, b);
            case 5 -> due("free", a, senses.free(a, b), model.free(a, b));
            case 6 -> {
                int n = pick(8) == 0 ? pick(104) - 1 : pick(4);
                due("settle", n, senses.settle(n), model.settle(n));
            }
            case 7 -> changeNumbers();
            default -> {
                int neighbours = someNeighbours();
                if (pick(5) == 0) {
                    due("sense", neighbours, senses.sense(neighbours), model.sense(neighbours));
                }
            }
        }
    }

    private void changeNumbers() {
        int one = pick(4);
        if (one == 0) {
            int neighbour = pick(22) - 1;
            int weight = pick(11);
            due("weight", neighbour, senses.weight(neighbour, weight), model.weight(neighbour, weight));
        } else if (one == 1) {
            int price = pick(3) == 0 ? pick(203) - 1 : pick(20);
            int gap = pick(3) == 0 ? pick(53) - 1 : pick(4);
            due("prices", price, senses.prices(price, gap), model.prices(price, gap));
        } else if (one == 2) {
            int share = pick(103) - 1;
            int few = pick(12) - 1;
            due("marks", share, senses.marks(share, few), model.marks(share, few));
        }
    }

    private void ask() {
        int a = someUse();
        int b = someUse();
        int heap = someHeap();
        switch (pick(14)) {
            case 0 -> due("heap", a, senses.heap(a), model.heap(a));
            case 1 -> due("size", heap, senses.size(heap), model.size(heap));
            case 2 -> due("far", a, senses.far(a, b), model.far(a, b));
            case 3 -> due("cost", 0, senses.cost(), model.cost());
            case 4 -> due("broken", 0, senses.broken(), model.broken());
            case 5 -> due("best", 0, senses.best(), model.best());
            case 6 -> due("name", heap, senses.name(heap), model.name(heap));
            case 7 -> due("core", heap, senses.core(heap), model.core(heap));
            case 8 -> due("matched", heap, senses.matched(heap), model.matched(heap));
            case 9 -> due("sum", 0, senses.sum(), model.sum());
            case 10 -> {
                int from = 1795 + pick(210);
                int to = 1795 + pick(210);
                int what = pick(5) == 0 ? pick(4) - 1 : pick(2);
                due("share", heap, senses.share(heap, from, to, what), model.share(heap, from, to, what));
            }
            case 11 -> due("first", heap, senses.first(heap), model.first(heap));
            default -> {
                int what = pick(8) - 1;
                due("count", what, senses.count(what), model.count(what));
            }
        }
    }
}
