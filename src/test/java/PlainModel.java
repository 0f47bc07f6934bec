import java.util.ArrayList;
import java.util.Arrays;
import java.util.Comparator;
import java.util.List;
import java.util.TreeMap;

/**
 * The document said again in the plainest way: every change is tried on a copy, and COST and BONDS are counted anew
 * each time. It is slow and shares no code with WordSenses, so that both are hardly wrong in the same way.
 */
final class PlainModel {
    private static final int NONE = -1;
    private static final List<Integer> NAMES = namesInOrder();

    private final int[] weights = new int[20];
    private final List<Integer> neighbours = new ArrayList<>();
    private final List<Integer> years = new ArrayList<>();
    // any mark for a heap; NONE for an open use
    private List<Integer> marks = new ArrayList<>();
    // by a * 40 + b with a < b
    private final TreeMap<Integer, Boolean> bonds = new TreeMap<>();
    private final List<Integer> senses = new ArrayList<>();
    private int price = 10;
    private int gap = 1;
    private int share = 60;
    private int few = 1;
    private int steps = 0;
    private int freshMark = 0;

    PlainModel() {
        Arrays.fill(weights, 1);
    }

    private static List<Integer> namesInOrder() {
        List<Integer> sets = new ArrayList<>();
        for (int set = 1; set < 1 << 20; set++) {
            if (Integer.bitCount(set) <= 3) {
                sets.add(set);
            }
        }
        sets.sort(Comparator.comparingInt((Integer set) -> Integer.bitCount(set)).thenComparingInt(set -> set));
        return sets;
    }

    private boolean is(int use) {
        return use >= 0 && use < neighbours.size();
    }

    private int apart(int a, int b) {
        int sum = 0;
        for (int n = 0; n < 20; n++) {
            boolean inA = (a & 1 << n) != 0;
            boolean inB = (b & 1 << n) != 0;
            sum += inA != inB ? weights[n] : 0;
        }
        return sum;
    }

    private boolean together(List<Integer> at, int a, int b) {
        return at.get(a) != NONE && at.get(a).equals(at.get(b));
    }

    private List<Integer> heapsOf(List<Integer> at) {
        List<Integer> leasts = new ArrayList<>();
        for (int use = 0; use < at.size(); use++) {
            if (leastOf(at, use) == use) {
                leasts.add(use);
            }
        }
        return leasts;
    }

    private int leastOf(List<Integer> at, int use) {
        for (int other = 0; other < at.size(); other++) {
            if (together(at, other, use)) {
                return other;
            }
        }
        return NONE;
    }

    private int costOf(List<Integer> at) {
        int sum = heapsOf(at).size() * price;
        for (int a = 0; a < at.size(); a++) {
            for (int b = 0; b < a; b++) {
                sum += together(at, a, b) ? apart(neighbours.get(a), neighbours.get(b)) : 0;
            }
        }
        return sum;
    }

    private int brokenOf(List<Integer> at) {
        int number = 0;
        for (int pair : bonds.keySet()) {
            int a = pair / 40;
            int b = pair % 40;
            if (at.get(a) != NONE && at.get(b) != NONE && together(at, a, b) != bonds.get(pair)) {
                number++;
            }
        }
        return number;
    }

    /** The places of a use: heaps by their least uses, then by itself; each as all marks after it. */
    private List<List<Integer>> places(int use) {
        List<List<Integer>> ways = new ArrayList<>();
        for (int heap : heapsOf(marks)) {
            if (!together(marks, heap, use)) {
                ways.add(with(use, marks.get(heap)));
            }
        }
        ways.add(with(use, freshMark++));
        return ways;
    }

    private List<Integer> with(int use, int mark) {
        List<Integer> copy = new ArrayList<>(marks);
        copy.set(use, mark);
        return copy;
    }

    private boolean isHeap(int heap) {
        return is(heap) && leastOf(marks, heap) == heap;
    }

    private List<Integer> membersOf(int heap) {
        List<Integer> members = new ArrayList<>();
        for (int use = 0; use < marks.size(); use++) {
            if (together(marks, heap, use)) {
                members.add(use);
            }
        }
        return members;
    }

    boolean weight(int neighbour, int weight) {
        if (neighbour < 0 || neighbour > 19 || weight < 1 || weight > 9) {
            return false;
        }
        weights[neighbour] = weight;
        return true;
    }

    boolean prices(int newPrice, int newGap) {
        if (newPrice < 0 || newPrice > 200 || newGap < 0 || newGap > 50) {
            return false;
        }
        price = newPrice;
        gap = newGap;
        return true;
    }

    boolean marks(int newShare, int newFew) {
        if (newShare < 0 || newShare > 100 || newFew < 0 || newFew > 9) {
            return false;
        }
        share = newShare;
        few = newFew;
        return true;
    }

    int use(int itsNeighbours, int year) {
        if (itsNeighbours < 0 || itsNeighbours > 1048575 || year < 1800 || year > 1999 || marks.size() == 40) {
            return NONE;
        }
        int use = marks.size();
        neighbours.add(itsNeighbours);
        years.add(year);
        marks.add(NONE);
        List<List<Integer>> ways = places(use);
        // List.sort keeps the order of like ones
        ways.sort(Comparator.comparingInt(this::costOf));
        if (ways.size() == 1 || costOf(ways.get(1)) - costOf(ways.get(0)) >= gap) {
            marks = ways.get(0);
        }
        return use;
    }

    boolean fix(int use, int other) {
        if (!is(use) || other != NONE && !is(other)) {
            return false;
        }
        if (other == NONE) {
            marks.set(use, NONE);
        } else if (other == use) {
            marks.set(use, freshMark++);
        } else if (marks.get(other) == NONE) {
            return false;
        } else {
            marks.set(use, marks.get(other));
        }
        return true;
    }

    boolean bond(int a, int b, boolean must) {
        if (!is(a) || !is(b) || a == b) {
            return false;
        }
        int pair = Math.min(a, b) * 40 + Math.max(a, b);
        if (!bonds.containsKey(pair) && bonds.size() == 60) {
            return false;
        }
        bonds.put(pair, must);
        return true;
    }

    boolean free(int a, int b) {
        return is(a) && is(b) && bonds.remove(Math.min(a, b) * 40 + Math.max(a, b)) != null;
    }

    int settle(int n) {
        if (n < 0 || n > 100) {
            return NONE;
        }
        int made = 0;
        while (made < n && (layFirst() || moveFirst() || meltFirst())) {
            made++;
        }
        steps += made;
        return made;
    }

    private boolean layFirst() {
        for (int use = 0; use < marks.size(); use++) {
            if (marks.get(use) == NONE) {
                List<List<Integer>> ways = places(use);
                ways.removeIf(way -> brokenOf(way) > brokenOf(marks));
                ways.sort(Comparator.comparingInt(this::costOf));
                if (!ways.isEmpty()) {
                    marks = ways.get(0);
                    return true;
                }
            }
        }
        return false;
    }

    private boolean moveFirst() {
        for (int use = 0; use < marks.size(); use++) {
            if (marks.get(use) != NONE) {
                for (List<Integer> way : places(use)) {
                    if (takeIfBetter(way)) {
                        return true;
                    }
                }
            }
        }
        return false;
    }

    private boolean meltFirst() {
        for (int one : heapsOf(marks)) {
            for (int other : heapsOf(marks)) {
                List<Integer> way = new ArrayList<>(marks);
                for (int use : membersOf(other)) {
                    way.set(use, marks.get(one));
                }
                if (one < other && takeIfBetter(way)) {
                    return true;
                }
            }
        }
        return false;
    }

    private boolean takeIfBetter(List<Integer> way) {
        int fewer = brokenOf(marks) - brokenOf(way);
        if (fewer > 0 || fewer == 0 && costOf(way) < costOf(marks)) {
            marks = way;
            return true;
        }
        return false;
    }

    int heap(int use) {
        return is(use) ? leastOf(marks, use) : NONE;
    }

    int size(int heap) {
        return isHeap(heap) ? membersOf(heap).size() : 0;
    }

    int far(int a, int b) {
        return is(a) && is(b) ? apart(neighbours.get(a), neighbours.get(b)) : NONE;
    }

    int cost() {
        return costOf(marks);
    }

    int broken() {
        return brokenOf(marks);
    }

    int best() {
        if (marks.isEmpty() || marks.size() > 7) {
            return NONE;
        }
        return bestOf(new ArrayList<>());
    }

    private int bestOf(List<Integer> begun) {
        if (begun.size() == marks.size()) {
            return brokenOf(begun) == 0 ? costOf(begun) : NONE;
        }
        int least = NONE;
        int made = heapsOf(begun).size();
        for (int mark = 0; mark <= made; mark++) {
            List<Integer> further = new ArrayList<>(begun);
            further.add(mark);
            int cost = bestOf(further);
            if (cost != NONE && (least == NONE || cost < least)) {
                least = cost;
            }
        }
        return least;
    }

    int name(int heap) {
        if (!isHeap(heap)) {
            return 0;
        }
        int size = membersOf(heap).size();
        for (int set : NAMES) {
            int inside = 0;
            int outside = 0;
            for (int use = 0; use < marks.size(); use++) {
                if ((neighbours.get(use) & set) == set) {
                    inside += together(marks, heap, use) ? 1 : 0;
                    outside += together(marks, heap, use) ? 0 : 1;
                }
            }
            if (100 * inside >= share * size && outside <= few) {
                return set;
            }
        }
        return 0;
    }

    int core(int heap) {
        int core = 0;
        for (int n = 0; n < 20 && isHeap(heap); n++) {
            int have = 0;
            int not = 0;
            for (int use : membersOf(heap)) {
                have += neighbours.get(use) >> n & 1;
                not += 1 - (neighbours.get(use) >> n & 1);
            }
            core += have >= not ? 1 << n : 0;
        }
        return core;
    }

    int sense(int itsNeighbours) {
        if (itsNeighbours < 0 || itsNeighbours > 1048575 || senses.size() == 5) {
            return NONE;
        }
        senses.add(itsNeighbours);
        return senses.size() - 1;
    }

    private List<Integer> largest() {
        List<Integer> heaps = heapsOf(marks);
        heaps.sort(Comparator.comparingInt((Integer heap) -> -size(heap)).thenComparingInt(heap -> heap));
        List<Integer> first = new ArrayList<>(heaps.subList(0, Math.min(5, heaps.size())));
        first.sort(Comparator.naturalOrder());
        return first;
    }

    /** All ways to give each heap a sense or none (then 9, behind all), the one due first. */
    private List<Integer> match() {
        List<Integer> heaps = largest();
        List<List<Integer>> ways = new ArrayList<>();
        ways.add(new ArrayList<>());
        for (int place = 0; place < heaps.size(); place++) {
            List<List<Integer>> longer = new ArrayList<>();
            for (List<Integer> way : ways) {
                for (int sense = 0; sense <= senses.size(); sense++) {
                    int given = sense == senses.size() ? 9 : sense;
                    if (given == 9 || !way.contains(given)) {
                        List<Integer> more = new ArrayList<>(way);
                        more.add(given);
                        longer.add(more);
                    }
                }
            }
            ways = longer;
        }
        ways.removeIf(way -> way.stream().filter(s -> s != 9).count() < Math.min(heaps.size(), senses.size()));
        ways.sort(Comparator.comparingInt((List<Integer> way) -> sumOf(heaps, way)).thenComparing(List::toString));
        return ways.get(0);
    }

    private int sumOf(List<Integer> heaps, List<Integer> way) {
        int sum = 0;
        for (int place = 0; place < way.size(); place++) {
            sum += way.get(place) == 9 ? 0 : apart(core(heaps.get(place)), senses.get(way.get(place)));
        }
        return sum;
    }

    int matched(int heap) {
        int place = largest().indexOf(heap);
        int sense = place < 0 ? 9 : match().get(place);
        return sense == 9 ? NONE : sense;
    }

    int sum() {
        return sumOf(largest(), match());
    }

    int share(int heap, int from, int to, int what) {
        if (!isHeap(heap) || what < 0 || what > 1) {
            return NONE;
        }
        int number = 0;
        for (int use = 0; use < marks.size(); use++) {
            boolean counts = together(marks, heap, use) || what == 1 && marks.get(use) == NONE;
            number += counts && years.get(use) >= from && years.get(use) <= to ? 1 : 0;
        }
        return number;
    }

    int first(int heap) {
        int earliest = 9999;
        for (int use : isHeap(heap) ? membersOf(heap) : List.<Integer>of()) {
            earliest = Math.min(earliest, years.get(use));
        }
        return earliest == 9999 ? NONE : earliest;
    }

    int count(int what) {
        int open = 0;
        for (int mark : marks) {
            open += mark == NONE ? 1 : 0;
        }
        int[] counts = {marks.size(), heapsOf(marks).size(), open, bonds.size(), senses.size(), steps};
        return what >= 0 && what < 6 ? counts[what] : NONE;
    }
}
