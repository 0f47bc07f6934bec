/** Promises 6 (fix), 10 (heap), 11 (size), 13 (cost), 23 (count). */
public final class HeapsTest {
    private static final int NONE = WordSenses.NONE;
    private static final int[] NO_USES = {-1, -2, 4, 40, Integer.MAX_VALUE, Integer.MIN_VALUE};

    public static void main(String[] args) {
        handMovesUses();
        leastUseGoes();
        handAndOpenOnes();
        handKeepsWhatIs();
        wrongHands();
        sizes();
        costs();
        counts();
        Check.end();
    }

    private static WordSenses fourAlike() {
        WordSenses x = new WordSenses();
        for (int use = 0; use < 4; use++) {
            x.use(5, 1900);
        }
        return x;
    }

    private static void handMovesUses() {
        WordSenses x = fourAlike();
        Check.heaps("laid", x, 0, 0, 0, 0);
        Check.due("fix(2, 2)", x.fix(2, 2), true);
        Check.heaps("by itself", x, 0, 0, 2, 0);
        Check.due("fix(3, 2)", x.fix(3, 2), true);
        Check.heaps("into another one's heap", x, 0, 0, 2, 2);
        Check.due("fix(1, 3)", x.fix(1, 3), true);
        Check.heaps("a lesser use names the heap anew", x, 0, 1, 1, 1);
        Check.due("fix(0, 3)", x.fix(0, 3), true);
        Check.heaps("the last of a heap goes", x, 0, 0, 0, 0);
        Check.due("one heap", x.count(1), 1);
    }

    private static void leastUseGoes() {
        WordSenses x = fourAlike();
        Check.due("fix(0, 0)", x.fix(0, 0), true);
        Check.heaps("the rest is known by its least use", x, 0, 1, 1, 1);
        Check.due("size of the rest", x.size(1), 3);
        Check.due("fix(1, NONE)", x.fix(1, NONE), true);
        Check.heaps("again", x, 0, NONE, 2, 2);
        Check.due("no heap is left behind", x.count(1), 2);
    }

    private static void handAndOpenOnes() {
        WordSenses x = fourAlike();
        Check.due("fix(1, NONE)", x.fix(1, NONE), true);
        Check.due("open", x.heap(1), NONE);
        Check.due("fix(1, NONE) again", x.fix(1, NONE), true);
        Check.due("one is open", x.count(2), 1);
        Check.due("fix(2, 1): the other one is open", x.fix(2, 1), false);
        Check.due("fix(1, 1)", x.fix(1, 1), true);
        Check.heaps("from open by itself", x, 0, 1, 0, 0);
        x.fix(1, NONE);
        Check.due("fix(1, 3)", x.fix(1, 3), true);
        Check.heaps("from open into a heap", x, 0, 0, 0, 0);
        for (int use = 0; use < 4; use++) {
            x.fix(use, NONE);
        }
        Check.heaps("all open", x, NONE, NONE, NONE, NONE);
        Check.due("four are open", x.count(2), 4);
        Check.due("cost of open ones", x.cost(), 0);
        Check.due("no heap", x.count(1), 0);
    }

    private static void handKeepsWhatIs() {
        WordSenses x = fourAlike();
        Check.due("fix(3, 1)", x.fix(3, 1), true);
        Check.due("fix(0, 2)", x.fix(0, 2), true);
        Check.heaps("into its own heap", x, 0, 0, 0, 0);
        x.fix(2, 2);
        Check.due("fix(2, 2)", x.fix(2, 2), true);
        Check.heaps("by itself again", x, 0, 0, 2, 0);
        Check.due("no step", x.count(5), 0);
    }

    private static void wrongHands() {
        WordSenses x = fourAlike();
        for (int wrong : NO_USES) {
            Check.due("fix(" + wrong + ", 0)", x.fix(wrong, 0), false);
            Check.due("fix(" + wrong + ", same)", x.fix(wrong, wrong), false);
            Check.due("fix(" + wrong + ", NONE)", x.fix(wrong, NONE), false);
            Check.due("heap(" + wrong + ")", x.heap(wrong), NONE);
            if (wrong != NONE) {
                Check.due("fix(1, " + wrong + ")", x.fix(1, wrong), false);
            }
        }
        Check.heaps("nothing changed", x, 0, 0, 0, 0);
    }

    private static void sizes() {
        WordSenses x = fourAlike();
        x.fix(1, 1);
        x.fix(3, 1);
        x.fix(2, NONE);
        Check.due("size(0)", x.size(0), 1);
        Check.due("size(1)", x.size(1), 2);
        Check.due("size of an open use", x.size(2), 0);
        Check.due("size of no least use", x.size(3), 0);
        for (int wrong : NO_USES) {
            Check.due("size(" + wrong + ")", x.size(wrong), 0);
        }
    }

    private static void costs() {
        WordSenses x = Check.laid(new int[] {1, 3, 7, 0}, new int[] {0, 0, 0, 3});
        Check.due("each two of a heap, each heap", x.cost(), 2 * 10 + 1 + 2 + 1);
        x.fix(3, 0);
        Check.due("one heap", x.cost(), 10 + 1 + 2 + 1 + 1 + 2 + 3);
        x.fix(1, NONE);
        Check.due("an open one costs nothing", x.cost(), 10 + 2 + 1 + 3);
        WordSenses most = new WordSenses();
        for (int use = 0; use < 40; use++) {
            most.use(use % 2 == 0 ? 0 : 1048575, 1900);
        }
        for (int n = 0; n < 20; n++) {
            most.weight(n, 9);
        }
        most.prices(200, 0);
        for (int use = 0; use < 40; use++) {
            most.fix(use, use);
        }
        Check.due("forty heaps", most.cost(), 8000);
        for (int use = 1; use < 40; use++) {
            most.fix(use, 0);
        }
        Check.due("one heap of forty", most.cost(), 200 + 20 * 20 * 180);
    }

    private static void counts() {
        WordSenses x = fourAlike();
        x.fix(1, 1);
        x.fix(2, NONE);
        x.bond(0, 1, true);
        x.bond(0, 2, true);
        x.bond(0, 3, false);
        x.sense(1);
        x.sense(2);
        Check.due("USES", x.count(0), 4);
        Check.due("HEAPS", x.count(1), 2);
        Check.due("OPEN ones", x.count(2), 1);
        Check.due("BONDS", x.count(3), 3);
        Check.due("SENSES", x.count(4), 2);
        Check.due("no STEPS yet", x.count(5), 0);
        int first = x.settle(1);
        int more = x.settle(50);
        Check.due("STEPS ever", x.count(5), first + more);
        Check.due("at least two", first == 1 && more >= 1, true);
        int[] wrong = {-1, 6, Integer.MAX_VALUE, Integer.MIN_VALUE};
        for (int what : wrong) {
            Check.due("count(" + what + ")", x.count(what), NONE);
        }
    }
}
