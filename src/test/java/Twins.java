import java.util.ArrayList;
import java.util.List;
import java.util.function.Supplier;
import java.util.function.ToIntFunction;

/**
 * Lays two objects of one making beside each other. One of them got a call more: if that call changed nothing, both
 * answer alike, at once and when they are used further. No object gets more than 512 calls.
 */
final class Twins {
    private final WordSenses x;
    private final List<String> answers = new ArrayList<>();

    private Twins(WordSenses x) {
        this.x = x;
    }

    /** A call with numbers wrong in every object. */
    static void refused(String call, int want, ToIntFunction<WordSenses> made) {
        refused(call, want, made, Scenes::empty);
        refused(call, want, made, Scenes::some);
        refused(call, want, made, Scenes::full);
    }

    static void refused(String call, boolean want, ToIntFunction<WordSenses> made) {
        refused(call, want ? 1 : 0, made);
    }

    /** A call that is to answer this on such an object, and to change nothing. */
    static void refused(String call, int want, ToIntFunction<WordSenses> made, Supplier<WordSenses> scene) {
        WordSenses called = scene.get();
        Check.due(call, made.applyAsInt(called), want);
        List<String> after = lifeOf(called);
        List<String> spared = lifeOf(scene.get());
        Check.due(call + ": answers after it", after.size(), spared.size());
        for (int n = 0; n < after.size() && n < spared.size(); n++) {
            if (!after.get(n).equals(spared.get(n))) {
                Check.due(call + " changed " + spared.get(n) + " to " + after.get(n), false, true);
                return;
            }
        }
    }

    /** A question: whatever it answers, it changes nothing, and answers the same again. */
    static void asked(String call, ToIntFunction<WordSenses> made, Supplier<WordSenses> scene) {
        WordSenses x = scene.get();
        int first = made.applyAsInt(x);
        Check.due(call + ", asked again", made.applyAsInt(x), first);
        refused(call, first, made, scene);
    }

    private static List<String> lifeOf(WordSenses x) {
        Twins teller = new Twins(x);
        teller.tell();
        teller.useFurther();
        teller.tell();
        teller.turnOver();
        return teller.answers;
    }

    private int told(String call, int answer) {
        answers.add(call + " = " + answer);
        return answer;
    }

    private void told(String call, boolean answer) {
        told(call, answer ? 1 : 0);
    }

    private void tell() {
        for (int what = 0; what <= 5; what++) {
            told("count(" + what + ")", x.count(what));
        }
        told("cost()", x.cost());
        told("broken()", x.broken());
        told("best()", x.best());
        told("sum()", x.sum());
        int uses = x.count(0);
        for (int use = 0; use < uses; use++) {
            if (told("heap(" + use + ")", x.heap(use)) == use) {
                tellHeap(use);
            }
            int other = uses - 1 - use;
            if (use < other) {
                told("far(" + use + ", " + other + ")", x.far(use, other));
            }
        }
    }

    private void tellHeap(int heap) {
        told("size(" + heap + ")", x.size(heap));
        told("name(" + heap + ")", x.name(heap));
        told("core(" + heap + ")", x.core(heap));
        told("matched(" + heap + ")", x.matched(heap));
        told("first(" + heap + ")", x.first(heap));
        told("share(" + heap + ", 1850, 1910, 1)", x.share(heap, 1850, 1910, 1));
    }

    /** What new uses, weights and steps bring out: price, gap, bonds, and neighbours as they are kept. */
    private void useFurther() {
        // one too many would be refused here, and might do to both what only one of them got
        if (x.count(0) < 39) {
            told("use(1, 1901)", x.use(1, 1901));
            told("use(3, 1899)", x.use(3, 1899));
        }
        if (x.count(4) < 5) {
            told("sense(9)", x.sense(9));
        }
        told("weight(0, 8)", x.weight(0, 8));
        told("settle(3)", x.settle(3));
    }

    /** Which bonds there are, told by heaps that break them. */
    private void turnOver() {
        int uses = x.count(0);
        for (int use = 0; use < uses; use++) {
            told("fix(" + use + ", 0)", x.fix(use, 0));
        }
        told("broken() in one heap", x.broken());
        for (int use = 0; use < uses; use++) {
            told("fix(" + use + ", " + use + ")", x.fix(use, use));
        }
        told("broken() in many", x.broken());
        for (int use = 0; use < uses && use < 10; use++) {
            told("free(" + use + ", next)", x.free(use, use + 1));
            told("free(" + use + ", next but one)", x.free(use, use + 2));
        }
    }
}
