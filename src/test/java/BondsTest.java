/** Promises 7 (bond), 8 (free), 14 (broken). */
public final class BondsTest {
    private static final int NONE = WordSenses.NONE;

    public static void main(String[] args) {
        brokenBonds();
        openOnesDontCount();
        inPlaceOfOne();
        freed();
        wrongBonds();
        sixtyBonds();
        Check.end();
    }

    private static WordSenses twoHeaps() {
        return Check.laid(new int[] {1, 1, 2, 2}, new int[] {0, 0, 2, 2});
    }

    private static void brokenBonds() {
        WordSenses x = twoHeaps();
        Check.due("must, in one", x.bond(0, 1, true), true);
        Check.due("kept", x.broken(), 0);
        Check.due("mustn't, in two", x.bond(1, 2, false), true);
        Check.due("kept too", x.broken(), 0);
        Check.due("must, in two", x.bond(3, 0, true), true);
        Check.due("broken", x.broken(), 1);
        Check.due("mustn't, in one", x.bond(2, 3, false), true);
        Check.due("broken too", x.broken(), 2);
        Check.due("four bonds", x.count(3), 4);
        Check.heaps("a bond moves nothing", x, 0, 0, 2, 2);
        x.fix(3, 0);
        Check.due("both are kept now", x.broken(), 0);
        x.fix(1, 2);
        Check.due("two are broken now", x.broken(), 2);
    }

    private static void openOnesDontCount() {
        WordSenses x = twoHeaps();
        x.bond(0, 2, true);
        x.bond(0, 1, false);
        Check.due("both broken", x.broken(), 2);
        x.fix(2, NONE);
        Check.due("one end is open", x.broken(), 1);
        x.fix(0, NONE);
        Check.due("both ends are open", x.broken(), 0);
        x.bond(2, 0, false);
        Check.due("two open ones are in no one heap", x.broken(), 0);
        x.bond(3, 0, true);
        x.bond(2, 3, true);
        Check.due("use 0 is open, use 2 is open", x.broken(), 0);
        x.fix(2, 2);
        Check.due("use 2 is not", x.broken(), 1);
    }

    private static void inPlaceOfOne() {
        WordSenses x = twoHeaps();
        x.bond(0, 1, true);
        Check.due("the other kind", x.bond(0, 1, false), true);
        Check.due("one bond", x.count(3), 1);
        Check.due("broken", x.broken(), 1);
        Check.due("turned, the first kind", x.bond(1, 0, true), true);
        Check.due("one bond still", x.count(3), 1);
        Check.due("kept", x.broken(), 0);
        Check.due("the same again", x.bond(0, 1, true), true);
        Check.due("one bond at last", x.count(3), 1);
        Check.due("freed", x.free(0, 1), true);
        Check.due("none is left of either kind", x.free(0, 1), false);
        Check.due("no bond", x.count(3), 0);
    }

    private static void freed() {
        WordSenses x = twoHeaps();
        x.bond(0, 2, true);
        x.bond(0, 1, false);
        Check.due("free, turned", x.free(2, 0), true);
        Check.due("one is left", x.count(3), 1);
        Check.due("that is broken", x.broken(), 1);
        Check.due("free again", x.free(2, 0), false);
        Check.due("free, never tied", x.free(1, 3), false);
        Check.due("free, mustn't", x.free(0, 1), true);
        Check.due("none is broken", x.broken(), 0);
        int[] wrong = {-1, 4, 40, 64, Integer.MAX_VALUE, Integer.MIN_VALUE};
        for (int use : wrong) {
            Check.due("free(0, " + use + ")", x.free(0, use), false);
            Check.due("free(" + use + ", 0)", x.free(use, 0), false);
        }
        Check.due("free(0, 0)", x.free(0, 0), false);
    }

    private static void wrongBonds() {
        WordSenses x = twoHeaps();
        int[] wrong = {-1, 4, 40, 64, Integer.MAX_VALUE, Integer.MIN_VALUE};
        for (int use : wrong) {
            Check.due("bond(0, " + use + ")", x.bond(0, use, true), false);
            Check.due("bond(" + use + ", 0)", x.bond(use, 0, false), false);
            Check.due("bond of one", x.bond(use, use, true), false);
        }
        Check.due("bond(2, 2)", x.bond(2, 2, true), false);
        Check.due("no bond", x.count(3), 0);
    }

    private static void sixtyBonds() {
        WordSenses x = new WordSenses();
        for (int use = 0; use < 40; use++) {
            x.use(1, 1900);
        }
        for (int use = 1; use < 40; use++) {
            Check.due("bond of sixty", x.bond(0, use, true), true);
        }
        for (int use = 2; use <= 22; use++) {
            Check.due("bond of sixty", x.bond(1, use, true), true);
        }
        Check.due("sixty", x.count(3), 60);
        Check.due("one too many", x.bond(38, 39, false), false);
        Check.due("sixty still", x.count(3), 60);
        Check.due("none broken", x.broken(), 0);
        // the document says 'at most 60': one in another's place keeps to that
        Check.due("in place of one", x.bond(39, 0, false), true);
        Check.due("sixty after that", x.count(3), 60);
        Check.due("it is broken", x.broken(), 1);
        Check.due("one goes", x.free(0, 39), true);
        Check.due("one comes", x.bond(38, 39, false), true);
        Check.due("none more", x.bond(0, 39, true), false);
        Check.due("broken", x.broken(), 1);
    }
}
