/** Promises 21 (share), 22 (first): a method for each sentence that names an edge. */
public final class EdgesOfYearsTest {
    private static final int NONE = WordSenses.NONE;

    public static void main(String[] args) {
        fromAndToCount();
        yearsThatCantBe();
        fromBehindTo();
        atMost();
        otherHeapsDontCount();
        whatIs0Or1();
        shareOfNoneSuch();
        sharesOfForty();
        earliestUse();
        firstOfTheHeapAlone();
        firstOfNoneSuch();
        Check.end();
    }

    private static WordSenses ofYears(int[] years, int[] heaps) {
        WordSenses x = new WordSenses();
        for (int year : years) {
            x.use(1, year);
        }
        for (int use = 0; use < years.length; use++) {
            x.fix(use, NONE);
        }
        for (int use = 0; use < years.length; use++) {
            x.fix(use, heaps[use]);
        }
        return x;
    }

    /** SHARES: of a HEAP in YEARS from .. to: both of them count. */
    private static void fromAndToCount() {
        WordSenses x = ofYears(new int[] {1900, 1902, 1800, 1999}, new int[] {0, 0, 0, 0});
        Check.due("1900 .. 1902", x.share(0, 1900, 1902, 0), 2);
        Check.due("1901 .. 1902", x.share(0, 1901, 1902, 0), 1);
        Check.due("1900 .. 1901", x.share(0, 1900, 1901, 0), 1);
        Check.due("1901 alone", x.share(0, 1901, 1901, 0), 0);
        Check.due("1900 alone", x.share(0, 1900, 1900, 0), 1);
        Check.due("1800 alone", x.share(0, 1800, 1800, 0), 1);
        Check.due("1999 alone", x.share(0, 1999, 1999, 0), 1);
        Check.due("all", x.share(0, 1800, 1999, 0), 4);
        Check.due("but the first", x.share(0, 1801, 1999, 0), 3);
        Check.due("but the last", x.share(0, 1800, 1998, 0), 3);
    }

    /** from and to may be any ints: no USE is of YEARS that can't be. */
    private static void yearsThatCantBe() {
        WordSenses x = ofYears(new int[] {1800, 1999, 1900}, new int[] {0, 0, NONE});
        Check.due("of all ints", x.share(0, Integer.MIN_VALUE, Integer.MAX_VALUE, 0), 2);
        Check.due("of all ints, at most", x.share(0, Integer.MIN_VALUE, Integer.MAX_VALUE, 1), 3);
        Check.due("ahead of all", x.share(0, Integer.MIN_VALUE, 1799, 1), 0);
        Check.due("behind all", x.share(0, 2000, Integer.MAX_VALUE, 1), 0);
        Check.due("to the first", x.share(0, Integer.MIN_VALUE, 1800, 1), 1);
        Check.due("from the last", x.share(0, 1999, Integer.MAX_VALUE, 1), 1);
        Check.due("the least int alone", x.share(0, Integer.MIN_VALUE, Integer.MIN_VALUE, 1), 0);
        Check.due("the greatest int alone", x.share(0, Integer.MAX_VALUE, Integer.MAX_VALUE, 1), 0);
    }

    /** from behind to: there are no such YEARS. */
    private static void fromBehindTo() {
        WordSenses x = ofYears(new int[] {1900, 1901, 1900}, new int[] {0, 0, NONE});
        Check.due("1901 .. 1900", x.share(0, 1901, 1900, 0), 0);
        Check.due("1901 .. 1900, at most", x.share(0, 1901, 1900, 1), 0);
        Check.due("1999 .. 1800", x.share(0, 1999, 1800, 1), 0);
        Check.due("the greatest .. the least", x.share(0, Integer.MAX_VALUE, Integer.MIN_VALUE, 1), 0);
    }

    /** At most: OPEN ones of them, too: of these years, not all. */
    private static void atMost() {
        WordSenses x = ofYears(new int[] {1900, 1900, 1905, 1906, 1899}, new int[] {0, NONE, NONE, NONE, NONE});
        Check.due("1900 .. 1905", x.share(0, 1900, 1905, 0), 1);
        Check.due("1900 .. 1905, at most", x.share(0, 1900, 1905, 1), 3);
        Check.due("1906, at most", x.share(0, 1906, 1999, 1), 1);
        Check.due("1899, at most", x.share(0, 1800, 1899, 1), 1);
        Check.due("all, at most", x.share(0, 1800, 1999, 1), 5);
    }

    /** USES of other HEAPS are neither. */
    private static void otherHeapsDontCount() {
        WordSenses x = ofYears(new int[] {1900, 1900, 1900, 1900}, new int[] {0, 1, 1, NONE});
        Check.due("heap 0", x.share(0, 1900, 1900, 0), 1);
        Check.due("heap 0, at most", x.share(0, 1900, 1900, 1), 2);
        Check.due("heap 1", x.share(1, 1900, 1900, 0), 2);
        Check.due("heap 1, at most", x.share(1, 1900, 1900, 1), 3);
    }

    /** what 0 or 1; NONE if there is none such. */
    private static void whatIs0Or1() {
        for (int what : Check.outside(0, 1)) {
            Twins.refused("share(0, 1800, 1999, " + what + ")", NONE, x -> x.share(0, 1800, 1999, what));
        }
        Check.due("what 0", Scenes.some().share(0, 1800, 1999, 0), 3);
        Check.due("what 1", Scenes.some().share(0, 1800, 1999, 1), 4);
        Twins.asked("share(0, 1800, 1999, 0)", x -> x.share(0, 1800, 1999, 0), Scenes::some);
        Twins.asked("share(0, 1800, 1999, 1)", x -> x.share(0, 1800, 1999, 1), Scenes::some);
    }

    /** share: NONE if there is none such (the heap). */
    private static void shareOfNoneSuch() {
        for (int what = 0; what <= 1; what++) {
            int kind = what;
            for (int heap : Check.outside(0, 7)) {
                Twins.refused("share(" + heap + " ..)", NONE, x -> x.share(heap, 1800, 1999, kind), Scenes::some);
            }
            for (int heap : Check.outside(0, 39)) {
                Twins.refused("share(" + heap + " ..) of forty", NONE, x -> x.share(heap, 1800, 1999, kind),
                    Scenes::full);
            }
            int[] noLeastOnes = {1, 3, 5, 6, 7};
            for (int use : noLeastOnes) {
                Twins.refused("share(" + use + " ..), no least one", NONE, x -> x.share(use, 1800, 1999, kind),
                    Scenes::some);
            }
            Twins.refused("share(0 ..) of none", NONE, x -> x.share(0, 1800, 1999, kind), Scenes::empty);
        }
    }

    /** SHARES of as many as can be. */
    private static void sharesOfForty() {
        WordSenses x = Scenes.full();
        Check.due("seven of forty", x.share(4, 1800, 1999, 0), 7);
        Check.due("five are open", x.share(4, 1800, 1999, 1), 12);
        for (int use = 0; use < 40; use++) {
            x.fix(use, 0);
        }
        Check.due("all forty", x.share(0, 1800, 1999, 0), 40);
        for (int use = 1; use < 40; use++) {
            x.fix(use, NONE);
        }
        Check.due("one, at most forty", x.share(0, 1800, 1999, 1), 40);
    }

    /** first: The YEAR of the earliest USE, whichever came first. */
    private static void earliestUse() {
        WordSenses x = ofYears(new int[] {1950, 1900, 1999, 1800}, new int[] {0, 0, 2, 3});
        Check.due("the second of two", x.first(0), 1900);
        Check.due("the last year", x.first(2), 1999);
        Check.due("the first year", x.first(3), 1800);
        x.fix(1, 1);
        Check.due("the first of two", x.first(0), 1950);
        x.fix(3, 0);
        Check.due("an earlier one comes", x.first(0), 1800);
    }

    /** .. of a HEAP: not of others, nor of OPEN ones. */
    private static void firstOfTheHeapAlone() {
        WordSenses x = ofYears(new int[] {1950, 1900, 1800}, new int[] {0, 1, NONE});
        Check.due("of heap 0", x.first(0), 1950);
        Check.due("of heap 1", x.first(1), 1900);
        Twins.asked("first(2)", y -> y.first(2), Scenes::some);
    }

    /** first: NONE if there is none such. */
    private static void firstOfNoneSuch() {
        for (int heap : Check.outside(0, 7)) {
            Twins.refused("first(" + heap + ")", NONE, x -> x.first(heap), Scenes::some);
        }
        for (int heap : Check.outside(0, 39)) {
            Twins.refused("first(" + heap + ") of forty", NONE, x -> x.first(heap), Scenes::full);
        }
        int[] noLeastOnes = {1, 3, 5, 6, 7};
        for (int use : noLeastOnes) {
            Twins.refused("first(" + use + "), no least one", NONE, x -> x.first(use), Scenes::some);
        }
        Twins.refused("first(0) of none", NONE, x -> x.first(0), Scenes::empty);
    }
}
