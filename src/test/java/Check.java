import java.util.stream.IntStream;

/** Counts the answers that are not the ones due. */
final class Check {
    private static int wrong = 0;
    private static int asked = 0;

    private Check() {
    }

    static void due(String call, long got, long want) {
        asked++;
        if (got != want) {
            wrong++;
            System.out.println(call + " answered " + got + ", due is " + want);
        }
    }

    static void due(String call, boolean got, boolean want) {
        due(call, got ? 1 : 0, want ? 1 : 0);
    }

    /** The heaps of all uses, from use 0 on. */
    static void heaps(String when, WordSenses senses, int... want) {
        due(when + ": count(0)", senses.count(0), want.length);
        for (int use = 0; use < want.length; use++) {
            due(when + ": heap(" + use + ")", senses.heap(use), want[use]);
        }
    }

    /** Uses with these neighbours, laid by a hand into the heaps named for them. */
    static WordSenses laid(int[] neighbours, int[] heaps) {
        WordSenses senses = new WordSenses();
        for (int use = 0; use < neighbours.length; use++) {
            due("use", senses.use(neighbours[use], 1900 + use), use);
        }
        for (int use = 0; use < neighbours.length; use++) {
            senses.fix(use, WordSenses.NONE);
        }
        for (int use = 0; use < neighbours.length; use++) {
            due("fix", senses.fix(use, heaps[use]), true);
        }
        return senses;
    }

    /** Ints on both sides of a range: its neighbours, those that wrap around into it, the least and the greatest. */
    static int[] outside(int least, int most) {
        int[] near = {least - 1, most + 1, least - 2, most + 2, ~least, ~most, -most};
        int[] wraps = {32, 64, 256, 65536, 1 << 20, 1 << 24, 1 << 30, Integer.MIN_VALUE};
        int[] far = {Integer.MIN_VALUE, Integer.MIN_VALUE + 1, Integer.MAX_VALUE - 1, Integer.MAX_VALUE};
        IntStream wrapped = IntStream.of(wraps).flatMap(
            by -> IntStream.of(least + by, most + by, least - by, most - by));
        return IntStream.concat(IntStream.concat(IntStream.of(near), IntStream.of(far)), wrapped)
            .filter(value -> value < least || value > most).distinct().toArray();
    }

    static void end() {
        System.out.println(asked - wrong + " of " + asked + " answers as due");
        if (wrong != 0) {
            System.exit(1);
        }
    }
}
