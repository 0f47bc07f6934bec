/** Promises 4 (marks), 16 (name), 17 (core). */
public final class NamesTest {
    private static final int NONE = WordSenses.NONE;
    private static final int[] NO_HEAPS = {-1, 1, 3, 40, Integer.MAX_VALUE, Integer.MIN_VALUE};

    public static void main(String[] args) {
        wrongMarks();
        shareOfUses();
        fewOthers();
        fewestThenLeast();
        noName();
        coreIsHalf();
        wrongHeaps();
        Check.end();
    }

    private static void wrongMarks() {
        // neighbour 0: 3 of 5 inside, 1 outside
        WordSenses x = Check.laid(new int[] {1, 1, 1, 0, 0, 1}, new int[] {0, 0, 0, 0, 0, 5});
        int[][] wrong = {{-1, 9}, {101, 9}, {0, -1}, {0, 10}, {Integer.MAX_VALUE, 0}, {0, Integer.MIN_VALUE}};
        for (int[] pair : wrong) {
            Check.due("marks(" + pair[0] + ", " + pair[1] + ")", x.marks(pair[0], pair[1]), false);
        }
        Check.due("as at first: 60 and 1", x.name(0), 1);
        Check.due("marks(61, 1)", x.marks(61, 1), true);
        Check.due("61 parts", x.name(0), 0);
        Check.due("marks(60, 0)", x.marks(60, 0), true);
        Check.due("60 parts, none outside", x.name(0), 0);
        Check.due("marks(100, 9)", x.marks(100, 9), true);
        Check.due("all", x.name(0), 0);
        Check.due("marks(0, 0)", x.marks(0, 0), true);
        Check.due("share 0: what no use has", x.name(0), 2);
        Check.due("marks(0, 9)", x.marks(0, 9), true);
        Check.due("anything marks", x.name(0), 1);
    }

    private static void shareOfUses() {
        WordSenses x = Check.laid(new int[] {2, 2, 0}, new int[] {0, 0, 0});
        x.marks(66, 0);
        Check.due("2 of 3 are 66 of 100", x.name(0), 2);
        x.marks(67, 0);
        Check.due("but not 67", x.name(0), 0);
        x.marks(100, 0);
        x.fix(2, 2);
        Check.due("all have it", x.name(0), 2);
        // neighbours 0 and 1 are each in 2 of 3, both of them in 1 of 3
        WordSenses y = Check.laid(new int[] {3, 1, 2, 1, 1, 2, 2}, new int[] {0, 0, 0, 3, 3, 3, 3});
        y.marks(33, 0);
        Check.due("all of the set", y.name(0), 3);
        y.marks(34, 0);
        Check.due("all of the set, too few", y.name(0), 0);
    }

    private static void fewOthers() {
        WordSenses x = Check.laid(new int[] {1, 1, 1, 1}, new int[] {0, 1, 1, NONE});
        Check.due("3 others have it", x.name(0), 0);
        Check.due("2 others are too many at first", x.name(1), 0);
        x.marks(60, 2);
        Check.due("2 allowed", x.name(0), 0);
        x.marks(60, 3);
        Check.due("3 allowed, the open one counts", x.name(0), 1);
        x.marks(60, 2);
        Check.due("2 others", x.name(1), 1);
        x.marks(60, 1);
        Check.due("1 allowed", x.name(1), 0);
    }

    private static void fewestThenLeast() {
        WordSenses x = Check.laid(new int[] {0b1110, 0b0011, 0b0101, 0b1001}, new int[] {0, 1, 2, 3});
        x.marks(100, 0);
        Check.due("two, the least number", x.name(0), 0b0110);
        x.marks(100, 1);
        Check.due("one is fewer", x.name(0), 0b0010);
        WordSenses y = Check.laid(new int[] {1 << 19 | 3, 3}, new int[] {0, 1});
        y.marks(100, 0);
        Check.due("one with a great number", y.name(0), 1 << 19);
        // each two are elsewhere, three are not
        WordSenses z = Check.laid(new int[] {0b0111, 0b0011, 0b0101, 0b0110}, new int[] {0, 1, 1, 1});
        z.marks(100, 0);
        Check.due("three", z.name(0), 0b0111);
        WordSenses w = Check.laid(new int[] {0b1111 << 16, 0b1100 << 16, 0b0110 << 16, 0b0011 << 16, 0b1001 << 16,
            0b0101 << 16, 0b1010 << 16}, new int[] {0, 1, 1, 1, 1, 1, 1});
        w.marks(100, 0);
        Check.due("three, the least number", w.name(0), 0b0111 << 16);
        // pairs by number: neighbours 1 and 2 (6) come ahead of 0 and 3 (9)
        WordSenses v = Check.laid(new int[] {0b1111, 0b1010, 0b0101, 0b0011, 0b1100}, new int[] {0, 1, 1, 1, 1});
        v.marks(100, 0);
        Check.due("two, by number", v.name(0), 0b0110);
    }

    private static void noName() {
        WordSenses x = Check.laid(new int[] {0, 0}, new int[] {0, 1});
        Check.due("no neighbours", x.name(0), 0);
        // four would be wanted
        WordSenses y = Check.laid(new int[] {0b1111, 0b0111, 0b1011, 0b1101, 0b1110}, new int[] {0, 1, 1, 1, 1});
        y.marks(100, 0);
        Check.due("no set of 3", y.name(0), 0);
        y.marks(100, 1);
        Check.due("with one other", y.name(0), 0b0111);
    }

    private static void coreIsHalf() {
        WordSenses x = Check.laid(new int[] {0b0111, 0b0101, 0b0001, 0b1000}, new int[] {0, 0, 0, 0});
        Check.due("2 of 4 are half", x.core(0), 0b0101);
        x.fix(3, NONE);
        Check.due("1 of 3 is not", x.core(0), 0b0101);
        x.fix(2, 2);
        Check.due("1 of 2 is", x.core(0), 0b0111);
        Check.due("one use", x.core(2), 0b0001);
        WordSenses y = Check.laid(new int[] {1048575, 0}, new int[] {0, 0});
        Check.due("all neighbours", y.core(0), 1048575);
        y.fix(0, 0);
        Check.due("no neighbours", y.core(1), 0);
        // weights count for no core
        y.fix(0, 1);
        y.use(0, 1900);
        y.fix(2, 0);
        y.weight(3, 9);
        Check.due("weights do not matter", y.core(0), 0);
    }

    private static void wrongHeaps() {
        WordSenses x = Check.laid(new int[] {1, 1, 1}, new int[] {0, 0, NONE});
        Check.due("a heap", x.name(0), 1);
        for (int wrong : NO_HEAPS) {
            Check.due("name(" + wrong + ")", x.name(wrong), 0);
            Check.due("core(" + wrong + ")", x.core(wrong), 0);
        }
        Check.due("name of an open use", x.name(2), 0);
        Check.due("core of an open use", x.core(2), 0);
    }
}
