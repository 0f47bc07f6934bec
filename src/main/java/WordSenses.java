import java.util.Arrays;

/** Sorts the uses of one word into heaps, its senses. Sets of uses and of neighbours are held as bits. */
public final class WordSenses {
    public static final int NONE = -1;

    private static final int NEIGHBOURS = 20;
    private static final int ALL_NEIGHBOURS = 1048575;
    private static final int MOST_WEIGHT = 9;
    private static final int MOST_USES = 40;
    private static final int FIRST_YEAR = 1800;
    private static final int LAST_YEAR = 1999;
    private static final int MOST_PRICE = 200;
    private static final int MOST_GAP = 50;
    private static final int MOST_SHARE = 100;
    private static final int MOST_FEW = 9;
    private static final int MOST_BONDS = 60;
    private static final int MOST_STEPS = 100;
    private static final int MOST_SEARCHED = 7;
    private static final int MOST_SENSES = 5;
    // dearer than all that 40 uses can cost, with room to subtract from it
    private static final int BEYOND_COST = 1000000000;

    private final Uses uses;
    private final Bonds bonds;
    private final Heaps heaps;
    private final Settling settling;
    private final Search search;
    private final Naming naming;
    private final Dictionary dictionary;

    public WordSenses() {
        uses = new Uses();
        bonds = new Bonds();
        heaps = new Heaps(uses);
        settling = new Settling(uses, bonds, heaps);
        search = new Search(uses, bonds);
        naming = new Naming(uses);
        dictionary = new Dictionary(uses, heaps, naming);
    }

    public boolean weight(int neighbour, int weight) {
        if (!within(neighbour, 0, NEIGHBOURS - 1) || !within(weight, 1, MOST_WEIGHT)) {
            return false;
        }
        uses.weigh(neighbour, weight);
        return true;
    }

    public boolean prices(int price, int gap) {
        if (!within(price, 0, MOST_PRICE) || !within(gap, 0, MOST_GAP)) {
            return false;
        }
        heaps.price = price;
        heaps.gap = gap;
        return true;
    }

    public boolean marks(int share, int few) {
        if (!within(share, 0, MOST_SHARE) || !within(few, 0, MOST_FEW)) {
            return false;
        }
        naming.partsInside = share;
        naming.mostOutside = few;
        return true;
    }

    public int use(int neighbours, int year) {
        if (!within(neighbours, 0, ALL_NEIGHBOURS) || !within(year, FIRST_YEAR, LAST_YEAR)) {
            return NONE;
        }
        if (uses.came >= MOST_USES) {
            return NONE;
        }
        int use = uses.take(neighbours, year);
        heaps.layNew(use);
        return use;
    }

    public boolean fix(int use, int other) {
        if (!uses.has(use)) {
            return false;
        }
        if (other == NONE) {
            heaps.open(use);
            return true;
        }
        if (other == use) {
            heaps.putAlone(use);
            return true;
        }
        if (!uses.has(other) || heaps.isOpen(other)) {
            return false;
        }
        heaps.putInto(use, heaps.leastOf[other]);
        return true;
    }

    public boolean bond(int a, int b, boolean must) {
        return isPair(a, b) && bonds.tie(a, b, must);
    }

    public boolean free(int a, int b) {
        return isPair(a, b) && bonds.untie(a, b);
    }

    public int settle(int n) {
        if (!within(n, 0, MOST_STEPS)) {
            return NONE;
        }
        return settling.makeSteps(n);
    }

    public int heap(int use) {
        return uses.has(use) ? heaps.leastOf[use] : NONE;
    }

    public int size(int heap) {
        return Long.bitCount(membersOf(heap));
    }

    public int far(int a, int b) {
        return uses.has(a) && uses.has(b) ? uses.between(a, b) : NONE;
    }

    public int cost() {
        return heaps.costOfAll();
    }

    public int broken() {
        return bonds.brokenIn(heaps);
    }

    public int best() {
        if (!within(uses.came, 1, MOST_SEARCHED)) {
            return NONE;
        }
        return search.leastCost(heaps.price);
    }

    public int name(int heap) {
        long members = membersOf(heap);
        return members == 0 ? 0 : naming.nameOf(members);
    }

    public int core(int heap) {
        long members = membersOf(heap);
        return members == 0 ? 0 : naming.coreOf(members);
    }

    public int sense(int neighbours) {
        return within(neighbours, 0, ALL_NEIGHBOURS) ? dictionary.take(neighbours) : NONE;
    }

    public int matched(int heap) {
        return membersOf(heap) == 0 ? NONE : dictionary.senseFor(heap);
    }

    public int sum() {
        return dictionary.leastSum();
    }

    public int share(int heap, int from, int to, int what) {
        long members = membersOf(heap);
        if (members == 0 || !within(what, 0, 1)) {
            return NONE;
        }
        long counted = what == 0 ? members : members | heaps.allOpen();
        return uses.ofYears(counted, from, to);
    }

    public int first(int heap) {
        long members = membersOf(heap);
        return members == 0 ? NONE : uses.earliestYear(members);
    }

    public int count(int what) {
        switch (what) {
            case 0:
                return uses.came;
            case 1:
                return heaps.howMany();
            case 2:
                return Long.bitCount(heaps.allOpen());
            case 3:
                return bonds.tied;
            case 4:
                return dictionary.came;
            case 5:
                return settling.stepsEver;
            default:
                return NONE;
        }
    }

    /** The uses of the heap known by this number; none if it is no heap's least use. */
    private long membersOf(int heap) {
        return uses.has(heap) ? heaps.members[heap] : 0L;
    }

    private boolean isPair(int a, int b) {
        return a != b && uses.has(a) && uses.has(b);
    }

    private static boolean within(int value, int least, int most) {
        return value >= least && value <= most;
    }

    private static long bit(int use) {
        return 1L << use;
    }

    private static boolean holds(long group, int use) {
        return (group >> use & 1L) != 0;
    }

    /** The uses that came, wherever they lie, and the weights that say how far they are. */
    private static final class Uses {
        final int[] neighbours;
        final int[] years;
        // the uses that have a neighbour: those that have a whole set are a few of these rows joined
        final long[] having;
        private final int[] weights;
        // kept up to date, for settling asks for it far more often than weights change
        private final int[] farRows;
        int came;

        Uses() {
            neighbours = new int[MOST_USES];
            years = new int[MOST_USES];
            having = new long[NEIGHBOURS];
            weights = new int[NEIGHBOURS];
            farRows = new int[MOST_USES * MOST_USES];
            Arrays.fill(weights, 1);
        }

        boolean has(int use) {
            return use >= 0 && use < came;
        }

        long all() {
            return bit(came) - 1;
        }

        int take(int itsNeighbours, int year) {
            int use = came;
            neighbours[use] = itsNeighbours;
            years[use] = year;
            for (int n = 0; n < NEIGHBOURS; n++) {
                if ((itsNeighbours >> n & 1) != 0) {
                    having[n] |= bit(use);
                }
            }
            for (int other = 0; other < use; other++) {
                setBetween(use, other, apart(itsNeighbours, neighbours[other]));
            }
            came++;
            return use;
        }

        void weigh(int neighbour, int weight) {
            int more = weight - weights[neighbour];
            weights[neighbour] = weight;
            for (int a = 0; a < came; a++) {
                for (int b = 0; b < a; b++) {
                    if (((neighbours[a] ^ neighbours[b]) >> neighbour & 1) != 0) {
                        setBetween(a, b, between(a, b) + more);
                    }
                }
            }
        }

        /** How far two sets of neighbours are. */
        int apart(int some, int others) {
            int unlike = some ^ others;
            int sum = 0;
            for (int n = 0; n < NEIGHBOURS; n++) {
                if ((unlike >> n & 1) != 0) {
                    sum += weights[n];
                }
            }
            return sum;
        }

        int between(int a, int b) {
            return farRows[a * MOST_USES + b];
        }

        private void setBetween(int a, int b, int distance) {
            farRows[a * MOST_USES + b] = distance;
            farRows[b * MOST_USES + a] = distance;
        }

        /** How far a use is from all of a group, together. */
        int toGroup(int use, long group) {
            int sum = 0;
            for (int other = 0; other < came; other++) {
                if (holds(group, other)) {
                    sum += between(use, other);
                }
            }
            return sum;
        }

        int ofYears(long group, int from, int to) {
            int number = 0;
            for (int use = 0; use < came; use++) {
                if (holds(group, use) && within(years[use], from, to)) {
                    number++;
                }
            }
            return number;
        }

        int earliestYear(long group) {
            int earliest = LAST_YEAR;
            for (int use = 0; use < came; use++) {
                if (holds(group, use)) {
                    earliest = Math.min(earliest, years[use]);
                }
            }
            return earliest;
        }
    }

    /** The bonds: for each use those that it must, and those that it mustn't, be in one heap with. */
    private static final class Bonds {
        private final long[] musts;
        private final long[] mustnts;
        int tied;

        Bonds() {
            musts = new long[MOST_USES];
            mustnts = new long[MOST_USES];
        }

        /** A bond that takes another one's place is never one too many. */
        boolean tie(int a, int b, boolean must) {
            if (!untie(a, b) && tied >= MOST_BONDS) {
                return false;
            }
            long[] rows = must ? musts : mustnts;
            rows[a] |= bit(b);
            rows[b] |= bit(a);
            tied++;
            return true;
        }

        boolean untie(int a, int b) {
            if (!holds(musts[a] | mustnts[a], b)) {
                return false;
            }
            musts[a] &= ~bit(b);
            musts[b] &= ~bit(a);
            mustnts[a] &= ~bit(b);
            mustnts[b] &= ~bit(a);
            tied--;
            return true;
        }

        /** How many bonds of a use are broken if it lies with a group, of all those laid beside it. */
        int brokenBy(int use, long group, long laid) {
            return Long.bitCount(musts[use] & laid & ~group) + Long.bitCount(mustnts[use] & group);
        }

        /** How many more bonds are broken if two heaps become one. */
        int brokenByMelt(long one, long other) {
            int more = 0;
            for (int use = 0; use < MOST_USES; use++) {
                if (holds(one, use)) {
                    more += Long.bitCount(mustnts[use] & other) - Long.bitCount(musts[use] & other);
                }
            }
            return more;
        }

        int brokenIn(Heaps heaps) {
            long laid = heaps.allLaid();
            int ends = 0;
            for (int use = 0; use < MOST_USES; use++) {
                if (holds(laid, use)) {
                    ends += brokenBy(use, heaps.around(use), laid);
                }
            }
            // each broken bond was met at both of its ends
            return ends / 2;
        }
    }

    /** Which uses lie together, and what that costs. */
    private static final class Heaps {
        private final Uses uses;
        // the least use of the heap in which a use lies; NONE for an open one
        final int[] leastOf;
        // the uses of a heap, at its least use; nothing elsewhere
        final long[] members;
        // how far a group is from each heap, at the heap's least use
        final int[] farTo;
        int price;
        int gap;

        Heaps(Uses uses) {
            this.uses = uses;
            leastOf = new int[MOST_USES];
            members = new long[MOST_USES];
            farTo = new int[MOST_USES];
            price = 10;
            gap = 1;
            Arrays.fill(leastOf, NONE);
        }

        boolean isOpen(int use) {
            return leastOf[use] == NONE;
        }

        boolean isHeap(int use) {
            return members[use] != 0;
        }

        /** All uses of the heap of a use; none for an open one. */
        long around(int use) {
            int least = leastOf[use];
            return least == NONE ? 0L : members[least];
        }

        long allLaid() {
            long laid = 0L;
            for (int use = 0; use < uses.came; use++) {
                laid |= members[use];
            }
            return laid;
        }

        long allOpen() {
            return uses.all() & ~allLaid();
        }

        int howMany() {
            int number = 0;
            for (int use = 0; use < uses.came; use++) {
                if (isHeap(use)) {
                    number++;
                }
            }
            return number;
        }

        int costOfAll() {
            int twice = 0;
            for (int use = 0; use < uses.came; use++) {
                twice += uses.toGroup(use, around(use));
            }
            // each two uses of a heap were met from both sides
            return howMany() * price + twice / 2;
        }

        void open(int use) {
            int least = leastOf[use];
            if (least == NONE) {
                return;
            }
            long rest = members[least] & ~bit(use);
            members[least] = 0L;
            leastOf[use] = NONE;
            pile(rest);
        }

        void putAlone(int use) {
            open(use);
            pile(bit(use));
        }

        void putInto(int use, int least) {
            if (leastOf[use] == least) {
                return;
            }
            open(use);
            long joined = members[least] | bit(use);
            members[least] = 0L;
            pile(joined);
        }

        void melt(int one, int other) {
            long joined = members[one] | members[other];
            members[one] = 0L;
            members[other] = 0L;
            pile(joined);
        }

        /** Makes a group one heap, known by its least use. */
        private void pile(long group) {
            int least = NONE;
            for (int use = 0; use < uses.came; use++) {
                if (holds(group, use)) {
                    least = least == NONE ? use : least;
                    leastOf[use] = least;
                }
            }
            if (least != NONE) {
                members[least] = group;
            }
        }

        /** Fills farTo for a group. */
        void measure(long group) {
            Arrays.fill(farTo, 0);
            for (int use = 0; use < uses.came; use++) {
                if (holds(group, use)) {
                    addFar(use);
                }
            }
        }

        private void addFar(int use) {
            for (int other = 0; other < uses.came; other++) {
                int least = leastOf[other];
                if (least != NONE) {
                    farTo[least] += uses.between(use, other);
                }
            }
        }

        /** Lays a use that has just come; it stays open if a second place is hardly dearer. */
        void layNew(int use) {
            measure(bit(use));
            int place = NONE;
            int cheapest = BEYOND_COST;
            int next = BEYOND_COST;
            for (int heap = 0; heap < use; heap++) {
                if (isHeap(heap) && farTo[heap] < cheapest) {
                    next = cheapest;
                    cheapest = farTo[heap];
                    place = heap;
                } else if (isHeap(heap)) {
                    next = Math.min(next, farTo[heap]);
                }
            }
            boolean alone = place == NONE || price < cheapest;
            next = alone ? cheapest : Math.min(next, price);
            cheapest = alone ? price : cheapest;
            if (next - cheapest < gap) {
                return;
            }
            if (alone) {
                putAlone(use);
            } else {
                putInto(use, place);
            }
        }
    }

    /** Makes heaps better, step by step: always the first step that betters. */
    private static final class Settling {
        private final Uses uses;
        private final Bonds bonds;
        private final Heaps heaps;
        int stepsEver;

        Settling(Uses uses, Bonds bonds, Heaps heaps) {
            this.uses = uses;
            this.bonds = bonds;
            this.heaps = heaps;
        }

        int makeSteps(int most) {
            int made = 0;
            while (made < most && (layFirst() || moveFirst() || meltFirst())) {
                made++;
            }
            stepsEver += made;
            return made;
        }

        private boolean layFirst() {
            for (int use = 0; use < uses.came; use++) {
                if (heaps.isOpen(use) && layOpen(use)) {
                    return true;
                }
            }
            return false;
        }

        /** No bond of an open use is broken yet, so a place may break none. */
        private boolean layOpen(int use) {
            long laid = heaps.allLaid();
            heaps.measure(bit(use));
            int place = NONE;
            int cheapest = BEYOND_COST;
            for (int heap = 0; heap < uses.came; heap++) {
                if (heaps.isHeap(heap) && heaps.farTo[heap] < cheapest
                        && bonds.brokenBy(use, heaps.members[heap], laid) == 0) {
                    place = heap;
                    cheapest = heaps.farTo[heap];
                }
            }
            if (heaps.price < cheapest && bonds.brokenBy(use, 0L, laid) == 0) {
                heaps.putAlone(use);
                return true;
            }
            if (place == NONE) {
                return false;
            }
            heaps.putInto(use, place);
            return true;
        }

        private boolean moveFirst() {
            for (int use = 0; use < uses.came; use++) {
                if (!heaps.isOpen(use) && moveUse(use)) {
                    return true;
                }
            }
            return false;
        }

        private boolean moveUse(int use) {
            int own = heaps.leastOf[use];
            long rest = heaps.around(use) & ~bit(use);
            long laid = heaps.allLaid();
            heaps.measure(bit(use));
            int brokenNow = bonds.brokenBy(use, rest, laid);
            int costNow = rest == 0 ? heaps.price : heaps.farTo[own];
            for (int heap = 0; heap < uses.came; heap++) {
                if (heap != own && heaps.isHeap(heap)) {
                    int more = bonds.brokenBy(use, heaps.members[heap], laid) - brokenNow;
                    if (betters(more, heaps.farTo[heap] - costNow)) {
                        heaps.putInto(use, heap);
                        return true;
                    }
                }
            }
            if (rest != 0 && betters(bonds.brokenBy(use, 0L, laid) - brokenNow, heaps.price - costNow)) {
                heaps.putAlone(use);
                return true;
            }
            return false;
        }

        private boolean meltFirst() {
            for (int one = 0; one < uses.came; one++) {
                if (heaps.isHeap(one) && meltInto(one)) {
                    return true;
                }
            }
            return false;
        }

        private boolean meltInto(int one) {
            heaps.measure(heaps.members[one]);
            for (int other = one + 1; other < uses.came; other++) {
                if (heaps.isHeap(other)) {
                    int more = bonds.brokenByMelt(heaps.members[one], heaps.members[other]);
                    if (betters(more, heaps.farTo[other] - heaps.price)) {
                        heaps.melt(one, other);
                        return true;
                    }
                }
            }
            return false;
        }

        private static boolean betters(int moreBroken, int moreCost) {
            return moreBroken < 0 || moreBroken == 0 && moreCost < 0;
        }
    }

    /** Tries all ways to lay a few uses. */
    private static final class Search {
        private final Uses uses;
        private final Bonds bonds;
        private final long[] groups;
        private int price;
        private int least;

        Search(Uses uses, Bonds bonds) {
            this.uses = uses;
            this.bonds = bonds;
            groups = new long[MOST_SEARCHED];
        }

        int leastCost(int priceOfHeap) {
            price = priceOfHeap;
            least = BEYOND_COST;
            layRest(0, 0, 0);
            return least == BEYOND_COST ? NONE : least;
        }

        /** Lays this use and all behind it; costs only grow, so what is as dear as the least is left. */
        private void layRest(int use, int made, int spent) {
            if (spent >= least) {
                return;
            }
            if (use >= uses.came || use >= MOST_SEARCHED) {
                least = spent;
                return;
            }
            long laid = bit(use) - 1;
            for (int group = 0; group <= made && group < MOST_SEARCHED; group++) {
                long before = group < made ? groups[group] : 0L;
                if (bonds.brokenBy(use, before, laid) == 0) {
                    int more = group < made ? uses.toGroup(use, before) : price;
                    groups[group] = before | bit(use);
                    layRest(use + 1, Math.max(made, group + 1), spent + more);
                    groups[group] = before;
                }
            }
        }
    }

    /** The neighbours that tell a heap from others, and those that are usual in it. */
    private static final class Naming {
        private final Uses uses;
        int partsInside;
        int mostOutside;

        Naming(Uses uses) {
            this.uses = uses;
            partsInside = 60;
            mostOutside = 1;
        }

        int coreOf(long members) {
            int most = Long.bitCount(members);
            int core = 0;
            for (int n = 0; n < NEIGHBOURS; n++) {
                if (2 * Long.bitCount(uses.having[n] & members) >= most) {
                    core |= 1 << n;
                }
            }
            return core;
        }

        int nameOf(long members) {
            int name = nameOfOne(members);
            if (name == 0) {
                name = nameOfTwo(members);
            }
            if (name == 0) {
                name = nameOfThree(members);
            }
            return name;
        }

        // the highest neighbour runs outermost, so that sets come by their numbers

        private int nameOfOne(long members) {
            for (int high = 0; high < NEIGHBOURS; high++) {
                if (marksOut(uses.having[high], members)) {
                    return 1 << high;
                }
            }
            return 0;
        }

        private int nameOfTwo(long members) {
            for (int high = 1; high < NEIGHBOURS; high++) {
                for (int low = 0; low < high; low++) {
                    if (marksOut(uses.having[high] & uses.having[low], members)) {
                        return 1 << high | 1 << low;
                    }
                }
            }
            return 0;
        }

        private int nameOfThree(long members) {
            for (int high = 2; high < NEIGHBOURS; high++) {
                for (int middle = 1; middle < high; middle++) {
                    long both = uses.having[high] & uses.having[middle];
                    for (int low = 0; low < middle; low++) {
                        if (marksOut(both & uses.having[low], members)) {
                            return 1 << high | 1 << middle | 1 << low;
                        }
                    }
                }
            }
            return 0;
        }

        private boolean marksOut(long having, long members) {
            int inside = Long.bitCount(having & members);
            int outside = Long.bitCount(having & ~members);
            return inside * 100 >= partsInside * Long.bitCount(members) && outside <= mostOutside;
        }
    }

    /** The senses of a dictionary, and the largest heaps matched to them. */
    private static final class Dictionary {
        private final Uses uses;
        private final Heaps heaps;
        private final Naming naming;
        private final int[] senses;
        int came;
        // the heaps to be matched, by their least uses
        private final int[] chosen;
        private int chosenMany;
        private final int[] distances;
        private final int[] tried;
        private final int[] found;
        private int least;

        Dictionary(Uses uses, Heaps heaps, Naming naming) {
            this.uses = uses;
            this.heaps = heaps;
            this.naming = naming;
            senses = new int[MOST_SENSES];
            chosen = new int[MOST_SENSES];
            distances = new int[MOST_SENSES * MOST_SENSES];
            tried = new int[MOST_SENSES];
            found = new int[MOST_SENSES];
        }

        int take(int neighbours) {
            if (came >= MOST_SENSES) {
                return NONE;
            }
            senses[came] = neighbours;
            came++;
            return came - 1;
        }

        int senseFor(int heap) {
            match();
            for (int place = 0; place < chosenMany; place++) {
                if (chosen[place] == heap) {
                    return found[place];
                }
            }
            return NONE;
        }

        int leastSum() {
            match();
            return least;
        }

        private void match() {
            choose();
            for (int place = 0; place < chosenMany; place++) {
                int core = naming.coreOf(heaps.members[chosen[place]]);
                for (int sense = 0; sense < came; sense++) {
                    distances[place * MOST_SENSES + sense] = uses.apart(core, senses[sense]);
                }
            }
            least = BEYOND_COST;
            matchRest(0, Math.max(0, chosenMany - came), 0, 0);
        }

        private void choose() {
            long largest = 0L;
            for (int turn = 0; turn < MOST_SENSES; turn++) {
                int next = largestBut(largest);
                if (next != NONE) {
                    largest |= bit(next);
                }
            }
            chosenMany = 0;
            for (int heap = 0; heap < uses.came; heap++) {
                if (holds(largest, heap) && chosenMany < MOST_SENSES) {
                    chosen[chosenMany] = heap;
                    chosenMany++;
                }
            }
        }

        private int largestBut(long left) {
            int largest = NONE;
            int most = 0;
            for (int heap = 0; heap < uses.came; heap++) {
                int many = Long.bitCount(heaps.members[heap]);
                if (many > most && !holds(left, heap)) {
                    largest = heap;
                    most = many;
                }
            }
            return largest;
        }

        /**
         * Matches the heap at this place and all behind it; as many as there are spare get no sense. Ways come in
         * the order in which like ones are taken, so only a lesser sum replaces what was found.
         */
        private void matchRest(int place, int spare, int taken, int sum) {
            if (sum >= least) {
                return;
            }
            if (place >= chosenMany || place >= MOST_SENSES) {
                least = sum;
                System.arraycopy(tried, 0, found, 0, MOST_SENSES);
                return;
            }
            for (int sense = 0; sense < came; sense++) {
                if ((taken >> sense & 1) == 0) {
                    tried[place] = sense;
                    matchRest(place + 1, spare, taken | 1 << sense, sum + distances[place * MOST_SENSES + sense]);
                }
            }
            if (spare > 0) {
                tried[place] = NONE;
                matchRest(place + 1, spare - 1, taken, sum);
            }
        }
    }
}
