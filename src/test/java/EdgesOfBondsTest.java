/** Promises 7 (bond), 8 (free), 14 (broken): a method for each sentence that names an edge. */
public final class EdgesOfBondsTest {
    private static final int NONE = WordSenses.NONE;

    public static void main(String[] args) {
        mustInOneHeap();
        mustNotInOneHeap();
        openOnesDontCount();
        inPlaceOfOne();
        noneSuch();
        bothAreOne();
        atMost60();
        sixtyAreThere();
        inPlaceOfOneAmongSixty();
        oneGoes();
        whatWentBindsNeither();
        noneToGo();
        noneSuchToGo();
        brokenOfNothing();
        brokenOfMost();
        Check.end();
    }

    private static int asInt(boolean answer) {
        return answer ? 1 : 0;
    }

    /** HEAPS KEEP BONDS if no two USES that MUST are in two HEAPS. */
    private static void mustInOneHeap() {
        WordSenses x = Check.laid(new int[] {1, 1, 1}, new int[] {0, 0, 2});
        x.bond(0, 1, true);
        Check.due("must, in one", x.broken(), 0);
        x.bond(1, 2, true);
        Check.due("must, in two", x.broken(), 1);
        x.fix(2, 0);
        Check.due("in one again", x.broken(), 0);
        x.fix(1, 1);
        Check.due("both in two", x.broken(), 2);
    }

    /** .. and no two that MUSTN'T are in one. */
    private static void mustNotInOneHeap() {
        WordSenses x = Check.laid(new int[] {1, 1, 1}, new int[] {0, 0, 2});
        x.bond(1, 2, false);
        Check.due("mustn't, in two", x.broken(), 0);
        x.bond(0, 1, false);
        Check.due("mustn't, in one", x.broken(), 1);
        x.fix(2, 0);
        Check.due("both in one", x.broken(), 2);
    }

    /** OPEN ones don't count: one of the two, or both. */
    private static void openOnesDontCount() {
        boolean[] kinds = {true, false};
        for (boolean must : kinds) {
            WordSenses x = Check.laid(new int[] {1, 1}, new int[] {0, must ? 1 : 0});
            x.bond(0, 1, must);
            Check.due("must " + must + ": broken", x.broken(), 1);
            x.fix(1, NONE);
            Check.due("must " + must + ": the second is open", x.broken(), 0);
            x.fix(0, NONE);
            Check.due("must " + must + ": both are open", x.broken(), 0);
            x.fix(1, 1);
            Check.due("must " + must + ": the first is open", x.broken(), 0);
            Check.due("must " + must + ": it is there", x.count(3), 1);
        }
    }

    /** A BOND (in place of one of these two): true. */
    private static void inPlaceOfOne() {
        WordSenses x = Check.laid(new int[] {1, 1}, new int[] {0, 0});
        Check.due("a must", x.bond(0, 1, true), true);
        Check.due("a mustn't in its place", x.bond(0, 1, false), true);
        Check.due("one is there", x.count(3), 1);
        Check.due("the new one counts", x.broken(), 1);
        Check.due("a must in its place, turned", x.bond(1, 0, true), true);
        Check.due("one is there, turned", x.count(3), 1);
        Check.due("the newest counts", x.broken(), 0);
        Check.due("the same again", x.bond(1, 0, true), true);
        Check.due("one is there still", x.count(3), 1);
        Check.due("it goes", x.free(0, 1), true);
        Check.due("none is behind it", x.free(0, 1), false);
    }

    /** bond: false if there is none such. */
    private static void noneSuch() {
        for (int use : Check.outside(0, 7)) {
            Twins.refused("bond(4, " + use + ", true)", 0, x -> asInt(x.bond(4, use, true)), Scenes::some);
            Twins.refused("bond(" + use + ", 4, false)", 0, x -> asInt(x.bond(use, 4, false)), Scenes::some);
            Twins.refused("bond(" + use + ", itself, true)", 0, x -> asInt(x.bond(use, use, true)), Scenes::some);
        }
        WordSenses x = new WordSenses();
        for (int use = 0; use < 40; use++) {
            x.use(1, 1900);
        }
        for (int use : Check.outside(0, 39)) {
            Check.due("bond(39, " + use + ") of forty", x.bond(39, use, true), false);
            Check.due("bond(" + use + ", 39) of forty", x.bond(use, 39, true), false);
        }
        Check.due("no bond", x.count(3), 0);
        Check.due("bond(39, 0) of forty", x.bond(39, 0, true), true);
        Twins.refused("bond(0, 1) of none", 0, y -> asInt(y.bond(0, 1, true)), Scenes::empty);
    }

    /** bond: false if both are one. */
    private static void bothAreOne() {
        for (int use = 0; use < 8; use++) {
            int same = use;
            Twins.refused("bond(" + use + ", itself, true)", 0, x -> asInt(x.bond(same, same, true)), Scenes::some);
            Twins.refused("bond(" + use + ", itself, false)", 0, x -> asInt(x.bond(same, same, false)), Scenes::some);
        }
    }

    private static WordSenses fortyInOne() {
        WordSenses x = new WordSenses();
        for (int use = 0; use < 40; use++) {
            x.use(1, 1900);
        }
        return x;
    }

    /** BONDS: at most 60. The sixtieth is taken. */
    private static void atMost60() {
        WordSenses x = fortyInOne();
        int there = 0;
        for (int b = 38; b < 40; b++) {
            for (int a = 0; a < 30; a++) {
                Check.due("bond " + (there + 1) + " of sixty", x.bond(a, b, a % 2 == 0), true);
                there++;
                Check.due("so many are there", x.count(3), there);
            }
        }
        Check.due("the sixtieth counts", x.broken(), 30);
        Check.due("the sixtieth goes", x.free(39, 29), true);
    }

    /** bond: false if 60 are there. */
    private static void sixtyAreThere() {
        Check.due("sixty are there", Scenes.full().count(3), 60);
        Twins.refused("a must too many", 0, x -> asInt(x.bond(30, 35, true)), Scenes::full);
        Twins.refused("a mustn't too many", 0, x -> asInt(x.bond(35, 30, false)), Scenes::full);
        Twins.refused("one too many, of the first and the last", 0, x -> asInt(x.bond(0, 39, true)), Scenes::full);
        WordSenses x = Scenes.full();
        Check.due("one goes", x.free(3, 4), true);
        Check.due("fifty-nine are there", x.count(3), 59);
        Check.due("one comes", x.bond(30, 35, true), true);
        Check.due("sixty are there again", x.count(3), 60);
        Check.due("one too many again", x.bond(3, 4, true), false);
    }

    /** At most 60, and in place of one of these two: sixty stay sixty then, so it is taken. */
    private static void inPlaceOfOneAmongSixty() {
        WordSenses x = fortyInOne();
        Scenes.sixtyBonds(x);
        int broken = x.broken();
        Check.due("a mustn't in place of a must", x.bond(0, 1, false), true);
        Check.due("sixty are there", x.count(3), 60);
        Check.due("one more is broken", x.broken(), broken + 1);
        Check.due("a must in its place, turned", x.bond(1, 0, true), true);
        Check.due("sixty are there still", x.count(3), 60);
        Check.due("as many are broken as at first", x.broken(), broken);
        Check.due("a new one is still too many", x.bond(30, 35, true), false);
    }

    /** free: A BOND goes: true. Of either kind, named either way. */
    private static void oneGoes() {
        WordSenses x = Check.laid(new int[] {1, 1, 1}, new int[] {0, 0, 2});
        x.bond(0, 1, false);
        x.bond(0, 2, true);
        x.bond(1, 2, true);
        Check.due("three are broken", x.broken(), 3);
        Check.due("a mustn't goes, turned", x.free(1, 0), true);
        Check.due("two are broken", x.broken(), 2);
        Check.due("a must goes", x.free(0, 2), true);
        Check.due("one is broken", x.broken(), 1);
        Check.due("one is there", x.count(3), 1);
        Check.due("the last goes, turned", x.free(2, 1), true);
        Check.due("none is broken", x.broken(), 0);
        Check.due("none is there", x.count(3), 0);
    }

    /** A BOND that went, or in whose place another one came, binds neither of the two. */
    private static void whatWentBindsNeither() {
        boolean[] kinds = {true, false};
        for (boolean must : kinds) {
            for (int open = 0; open < 2; open++) {
                String when = "must " + must + ", use " + open + " is open";
                WordSenses x = Check.laid(new int[] {1, 3}, new int[] {0, 1});
                x.bond(0, 1, must);
                Check.due(when + ": free", x.free(0, 1), true);
                x.fix(open, NONE);
                // in the other one's heap it costs 1, by itself nothing if it is not to be there
                x.prices(must ? 0 : 10, 1);
                Check.due(when + ": settle", x.settle(1), 1);
                Check.due(when + ": heaps", x.count(1), must ? 2 : 1);
            }
        }
        WordSenses y = Check.laid(new int[] {1, 1, 1}, new int[] {0, 0, 0});
        y.bond(0, 1, false);
        y.bond(0, 2, false);
        y.bond(0, 1, true);
        y.bond(2, 0, true);
        Check.due("two musts in place of mustn'ts", y.broken(), 0);
        y.fix(0, 0);
        Check.due("both broken", y.broken(), 2);
        y.free(1, 0);
        y.free(0, 2);
        Check.due("both gone", y.broken(), 0);
        y.fix(0, 1);
        Check.due("both gone, in one", y.broken(), 0);
    }

    /** free: false if there is none (of two that are). */
    private static void noneToGo() {
        Twins.refused("free(3, 4), never bound", 0, x -> asInt(x.free(3, 4)), Scenes::some);
        Twins.refused("free(30, 35) among sixty", 0, x -> asInt(x.free(30, 35)), Scenes::full);
        for (int use = 0; use < 8; use++) {
            int same = use;
            Twins.refused("free(" + use + ", itself)", 0, x -> asInt(x.free(same, same)), Scenes::some);
        }
        WordSenses x = Scenes.some();
        Check.due("free(0, 1)", x.free(0, 1), true);
        Check.due("free(0, 1), gone", x.free(0, 1), false);
        Check.due("free(1, 0), gone", x.free(1, 0), false);
        Check.due("four are there", x.count(3), 4);
    }

    /** free: false if there is none (for there are no such USES). */
    private static void noneSuchToGo() {
        for (int use : Check.outside(0, 7)) {
            Twins.refused("free(0, " + use + ")", 0, x -> asInt(x.free(0, use)), Scenes::some);
            Twins.refused("free(" + use + ", 0)", 0, x -> asInt(x.free(use, 0)), Scenes::some);
            Twins.refused("free(" + use + ", itself)", 0, x -> asInt(x.free(use, use)), Scenes::some);
        }
        for (int use : Check.outside(0, 39)) {
            Twins.refused("free(" + use + ", 1) of forty", 0, x -> asInt(x.free(use, 1)), Scenes::full);
            Twins.refused("free(1, " + use + ") of forty", 0, x -> asInt(x.free(1, use)), Scenes::full);
        }
        Twins.refused("free(0, 1) of none", 0, x -> asInt(x.free(0, 1)), Scenes::empty);
    }

    /** broken: none without BONDS. */
    private static void brokenOfNothing() {
        Check.due("no uses", new WordSenses().broken(), 0);
        Check.due("no bonds", fortyInOne().broken(), 0);
    }

    /** broken: all sixty. */
    private static void brokenOfMost() {
        WordSenses x = fortyInOne();
        for (int a = 0; a < 39; a++) {
            x.bond(a, a + 1, false);
        }
        for (int a = 0; a < 21; a++) {
            x.bond(a, a + 2, false);
        }
        Check.due("sixty that mustn't, in one heap", x.broken(), 60);
        for (int use = 0; use < 40; use++) {
            x.fix(use, use);
        }
        Check.due("in forty heaps", x.broken(), 0);
        for (int a = 0; a < 39; a++) {
            x.bond(a, a + 1, true);
        }
        Check.due("thirty-nine that must, in forty heaps", x.broken(), 39);
    }
}
