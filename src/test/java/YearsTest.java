/** Promises 21 (share), 22 (first). */
public final class YearsTest {
    private static final int NONE = WordSenses.NONE;

    public static void main(String[] args) {
        shares();
        edges();
        firstYears();
        wrongHeaps();
        Check.end();
    }

    private static WordSenses someYears() {
        WordSenses x = new WordSenses();
        x.use(1, 1950);
        x.use(1, 1900);
        x.use(1, 1999);
        x.use(1, 1920);
        x.use(1, 1800);
        x.use(1, 1910);
        x.fix(3, 3);
        x.fix(4, NONE);
        x.fix(5, NONE);
        return x;
    }

    private static void shares() {
        WordSenses x = someYears();
        Check.due("all years", x.share(0, 1800, 1999, 0), 3);
        Check.due("all years, at most", x.share(0, 1800, 1999, 1), 5);
        Check.due("some", x.share(0, 1900, 1950, 0), 2);
        Check.due("some, at most", x.share(0, 1900, 1950, 1), 3);
        Check.due("another heap", x.share(3, 1900, 1950, 0), 1);
        Check.due("another heap, at most", x.share(3, 1900, 1950, 1), 2);
        Check.due("none", x.share(3, 1801, 1899, 1), 0);
    }

    private static void edges() {
        WordSenses x = someYears();
        Check.due("one year", x.share(0, 1900, 1900, 0), 1);
        Check.due("behind it", x.share(0, 1901, 1949, 0), 0);
        Check.due("the last year", x.share(0, 1999, 1999, 0), 1);
        Check.due("the first year, open", x.share(0, 1800, 1800, 1), 1);
        Check.due("turned", x.share(0, 1999, 1800, 1), 0);
        Check.due("all that can be", x.share(0, Integer.MIN_VALUE, Integer.MAX_VALUE, 1), 5);
        Check.due("what 2", x.share(0, 1800, 1999, 2), NONE);
        Check.due("what -1", x.share(0, 1800, 1999, -1), NONE);
    }

    private static void firstYears() {
        WordSenses x = someYears();
        Check.due("the earliest", x.first(0), 1900);
        Check.due("of one use", x.first(3), 1920);
        x.fix(4, 0);
        Check.due("an earlier one comes", x.first(0), 1800);
        x.fix(2, 2);
        Check.due("the last year", x.first(2), 1999);
    }

    private static void wrongHeaps() {
        WordSenses x = someYears();
        // no least use, open, never came
        int[] wrong = {1, 4, 6, -1, 40, Integer.MAX_VALUE, Integer.MIN_VALUE};
        for (int heap : wrong) {
            Check.due("share(" + heap + " ..)", x.share(heap, 1800, 1999, 0), NONE);
            Check.due("share(" + heap + " ..), at most", x.share(heap, 1800, 1999, 1), NONE);
            Check.due("first(" + heap + ")", x.first(heap), NONE);
        }
    }
}
