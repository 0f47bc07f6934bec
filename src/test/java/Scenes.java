/** Objects to lay calls on: empty, with something of everything, and full. */
final class Scenes {
    private static final int NONE = WordSenses.NONE;

    private Scenes() {
    }

    static WordSenses empty() {
        return new WordSenses();
    }

    /** Eight uses: heaps 0 (0, 1, 5), 2 (2, 3) and 4 (4, 6), open 7. */
    static WordSenses some() {
        WordSenses x = new WordSenses();
        x.weight(0, 3);
        x.weight(5, 9);
        x.weight(19, 2);
        int[] sets = {0b0000111, 0b0000011, 0b1110000, 0b1100000, 1 << 19 | 1, 0b0000110, 1 << 19, 1048575};
        int[] years = {1850, 1900, 1800, 1950, 1999, 1870, 1910, 1920};
        for (int use = 0; use < 8; use++) {
            x.use(sets[use], years[use]);
        }
        x.settle(2);
        for (int use = 0; use < 8; use++) {
            x.fix(use, NONE);
        }
        int[] heaps = {0, 0, 2, 2, 4, 0, 4, NONE};
        for (int use = 0; use < 8; use++) {
            x.fix(use, heaps[use]);
        }
        x.bond(0, 1, true);
        x.bond(0, 2, false);
        x.bond(1, 3, true);
        x.bond(7, 0, true);
        x.bond(2, 3, false);
        x.sense(0b0000111);
        x.sense(0b1110000);
        x.prices(12, 3);
        x.marks(50, 2);
        return x;
    }

    /** As many uses, bonds and senses as can be: heaps 0 .. 4 of seven each, open 35 .. 39. */
    static WordSenses full() {
        WordSenses x = new WordSenses();
        for (int use = 0; use < 40; use++) {
            x.use(setOfFull(use), 1800 + use * 5);
        }
        for (int use = 0; use < 40; use++) {
            x.fix(use, use < 5 ? use : use < 35 ? use % 5 : NONE);
        }
        sixtyBonds(x);
        int[] senses = {5, 1048575, 0, 70000, 5};
        for (int sense : senses) {
            x.sense(sense);
        }
        return x;
    }

    static int setOfFull(int use) {
        return use * 7919 * 31 % 1048576;
    }

    /** Each use with the next one, then uses 0 .. 20 with the next but one. Uses 30 and 35 have no bond. */
    static void sixtyBonds(WordSenses x) {
        for (int a = 0; a < 39; a++) {
            x.bond(a, a + 1, a % 3 == 0);
        }
        for (int a = 0; a < 21; a++) {
            x.bond(a, a + 2, a % 2 == 0);
        }
    }

    /** With price 3 and gap 3 the next use (1 ..) is just laid, and one more (3 ..) stays open. */
    static WordSenses priced() {
        WordSenses x = new WordSenses();
        x.use(1, 1900);
        x.prices(3, 3);
        return x;
    }

    /** Share 50 and few 2: heap 0 is named 2, heap 4 is named 2048; another share or few names one of them else. */
    static WordSenses marked() {
        // of heap 0 one has neighbour 0, two have 1, all have 2; beside heap 4 four have 10, two have 11, none has 12
        int[] sets = {0b111, 0b110, 0b100, 0b100, 7 << 10, 7 << 10, 3 << 10, 3 << 10, 1 << 10, 1 << 10};
        WordSenses x = Check.laid(sets, new int[] {0, 0, 0, 0, 4, 4, 6, 6, 6, 6});
        x.marks(50, 2);
        return x;
    }
}
