/** Promise 23 (count), and that no question changes anything: a method for each sentence that names an edge. */
public final class EdgesOfCountTest {
    private static final int NONE = WordSenses.NONE;

    public static void main(String[] args) {
        whatIs0To5();
        noneForOthers();
        countsOfTheEmptyObject();
        countsOfTheFullObject();
        heapsAtMost40();
        openAtMost40();
        bondsComeAndGo();
        stepsEver();
        questionsChangeNothing();
        Check.end();
    }

    private static void counts(String when, WordSenses x, int... want) {
        for (int what = 0; what < want.length; what++) {
            Check.due(when + ": count(" + what + ")", x.count(what), want[what]);
        }
    }

    /** 0 USES, 1 HEAPS, 2 OPEN ones, 3 BONDS, 4 SENSES, 5 STEPS ever: each tells its own. */
    private static void whatIs0To5() {
        WordSenses x = Check.laid(new int[] {1, 1, 1, 1, 2, 2, 4}, new int[] {0, 1, 0, 0, 4, 4, NONE});
        counts("seven uses", x, 7, 3, 1, 0, 0, 0);
        x.bond(0, 1, false);
        x.bond(0, 4, false);
        x.bond(1, 4, false);
        x.bond(0, 2, true);
        x.bond(0, 3, true);
        counts("five bonds", x, 7, 3, 1, 5, 0, 0);
        x.sense(1);
        x.sense(2);
        counts("two senses", x, 7, 3, 1, 5, 2, 0);
        Check.due("settle(1)", x.settle(1), 1);
        counts("one step", x, 7, 3, 0, 5, 2, 1);
    }

    /** count: NONE for others. */
    private static void noneForOthers() {
        for (int what : Check.outside(0, 5)) {
            Twins.refused("count(" + what + ")", NONE, x -> x.count(what));
        }
    }

    private static void countsOfTheEmptyObject() {
        counts("empty", new WordSenses(), 0, 0, 0, 0, 0, 0);
    }

    private static void countsOfTheFullObject() {
        counts("full", Scenes.full(), 40, 5, 5, 60, 5, 0);
    }

    private static void heapsAtMost40() {
        WordSenses x = Scenes.full();
        for (int use = 0; use < 40; use++) {
            x.fix(use, use);
        }
        counts("all by themselves", x, 40, 40, 0);
    }

    private static void openAtMost40() {
        WordSenses x = Scenes.full();
        for (int use = 0; use < 40; use++) {
            x.fix(use, NONE);
        }
        counts("all open", x, 40, 0, 40);
    }

    private static void bondsComeAndGo() {
        WordSenses x = Scenes.full();
        for (int a = 0; a < 39; a++) {
            Check.due("one goes", x.free(a + 1, a), true);
            Check.due("so many are left", x.count(3), 59 - a);
        }
    }

    /** STEPS ever: of all calls of settle together; a refused one adds none, and a hand makes no STEP. */
    private static void stepsEver() {
        WordSenses x = Check.laid(new int[] {1, 1, 1, 1}, new int[] {0, 1, NONE, NONE});
        Check.due("no steps yet", x.count(5), 0);
        Check.due("settle(2)", x.settle(2), 2);
        Check.due("two layings", x.count(5), 2);
        Check.due("settle(101)", x.settle(101), NONE);
        Check.due("settle(-1)", x.settle(-1), NONE);
        Check.due("settle(0)", x.settle(0), 0);
        Check.due("two still", x.count(5), 2);
        int more = x.settle(100);
        Check.due("one step or more", more > 0, true);
        Check.due("all together", x.count(5), 2 + more);
        x.fix(0, 0);
        x.use(1, 1900);
        Check.due("as many as before", x.count(5), 2 + more);
    }

    /** Questions answer, and change nothing. */
    private static void questionsChangeNothing() {
        Twins.asked("heap(5)", x -> x.heap(5), Scenes::some);
        Twins.asked("size(0)", x -> x.size(0), Scenes::some);
        Twins.asked("far(0, 7)", x -> x.far(0, 7), Scenes::some);
        Twins.asked("cost()", x -> x.cost(), Scenes::some);
        Twins.asked("broken()", x -> x.broken(), Scenes::some);
        Twins.asked("best()", x -> x.best(), Scenes::priced);
        Twins.asked("name(2)", x -> x.name(2), Scenes::some);
        Twins.asked("core(4)", x -> x.core(4), Scenes::some);
        Twins.asked("matched(2)", x -> x.matched(2), Scenes::some);
        Twins.asked("sum()", x -> x.sum(), Scenes::some);
        Twins.asked("share(0 ..)", x -> x.share(0, 1850, 1900, 1), Scenes::some);
        Twins.asked("first(4)", x -> x.first(4), Scenes::some);
        for (int what = 0; what <= 5; what++) {
            int kind = what;
            Twins.asked("count(" + what + ")", x -> x.count(kind), Scenes::some);
        }
    }
}
