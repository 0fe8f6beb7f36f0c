/** Each promise of the document in turn: ordinary calls, the named edges, and wrong arguments. */
public final class PromiseTests extends Checks {
    private static void aNewObject() {
        LearnedIndex x = new LearnedIndex();
        for (int what = 0; what < 10; what++) {
            due("count(" + what + ")", x.count(what), 0);
        }
        due("bound", x.set(BOUND, 1), 2);
        due("capacity", x.set(CAPACITY, 1), 8);
        due("page size", x.set(PAGE_SIZE, 1), 4);
        due("factor", x.set(FACTOR, 1), 0);
        refused("restore", STATE, x::restore);
        due("load", x.load(), 0);
        due("feed", x.feed('1'), 1);
        new LearnedIndex().put(5, 5);
        due("contains(5) of another object", x.contains(5), false);
    }

    private static void put() {
        LearnedIndex x = new LearnedIndex();
        refused("put(-1)", ARGUMENT, () -> x.put(-1, 1));
        refused("put(10000)", ARGUMENT, () -> x.put(10000, 1));
        refused("put(least int)", ARGUMENT, () -> x.put(Integer.MIN_VALUE, 1));
        due("changes after refusals", x.count(CHANGES), 0);
        due("put(0)", x.put(0, Integer.MIN_VALUE), 1);
        due("put(9999)", x.put(9999, Integer.MAX_VALUE), 1);
        due("put(0) again", x.put(0, 7), 0);
        due("changes", x.count(CHANGES), 2);
        due("get(0)", x.get(0), 7);
        due("get(9999)", x.get(9999), Integer.MAX_VALUE);
        LearnedIndex y = powers();
        due("put of the value that there is", y.put(4, 40), 0);
        due("is a change", y.count(CHANGES), 1);
        y.remove(4);
        due("put after remove", y.put(4, 41), 1);
        due("in place of the removal", y.count(CHANGES), 1);
        due("no removal", y.change(0, 1), 0);
        due("main part", y.main(2, true), 40);
    }

    private static void putOverflow() {
        LearnedIndex x = full();
        due("entries", x.count(ENTRIES), 150);
        refused("put of entry 151", STATE, () -> x.put(1, 1));
        refused("put of no key", ARGUMENT, () -> x.put(-1, 1));
        due("put of a key that is there", x.put(66, 5), 0);
        x.remove(66);
        due("put after remove", x.put(1, 1), 1);
        refused("put of the removed one", STATE, () -> x.put(66, 1));
        due("entries again", x.count(ENTRIES), 150);
    }

    private static void mergingByCapacity() {
        LearnedIndex x = new LearnedIndex();
        for (int key = 8; key >= 1; key--) {
            x.put(key, key);
        }
        due("changes at capacity", x.count(CHANGES), 8);
        due("positions", x.count(POSITIONS), 0);
        x.put(3, 33);
        due("changes with a value anew", x.count(CHANGES), 8);
        x.put(9, 9);
        due("changes over capacity", x.count(CHANGES), 0);
        due("positions", x.count(POSITIONS), 9);
        due("mergings", x.count(MERGINGS), 1);
        due("third value", x.main(2, true), 33);
        x.set(CAPACITY, 1);
        x.remove(5);
        due("removals", x.count(REMOVALS), 1);
        x.remove(6);
        due("removals over capacity", x.count(REMOVALS), 0);
        due("positions", x.count(POSITIONS), 7);
        due("mergings", x.count(MERGINGS), 2);
    }

    private static void remove() {
        LearnedIndex x = powers();
        refused("remove(-1)", ARGUMENT, () -> x.remove(-1));
        refused("remove(10000)", ARGUMENT, () -> x.remove(10000));
        refused("remove(3)", ELEMENT, () -> x.remove(3));
        due("remove(8)", x.remove(8), 80);
        refused("remove(8) again", ELEMENT, () -> x.remove(8));
        due("removals", x.count(REMOVALS), 1);
        due("positions", x.count(POSITIONS), 7);
        x.put(3, 5);
        due("remove of a new key", x.remove(3), 5);
        due("its change is taken out", x.count(CHANGES), 1);
        x.put(4, 44);
        due("remove of a new value", x.remove(4), 44);
        due("in place of the value", x.count(CHANGES), 2);
        due("removals", x.count(REMOVALS), 2);
        due("entries", x.count(ENTRIES), 5);
        due("no lookup", x.count(LOOKUPS), 0);
        x.merge();
        due("positions after merging", x.count(POSITIONS), 5);
        refused("remove(8) after merging", ELEMENT, () -> x.remove(8));
    }

    private static void get() {
        LearnedIndex x = powers();
        refused("get(-1)", ARGUMENT, () -> x.get(-1));
        refused("get(10000)", ARGUMENT, () -> x.get(10000));
        dueTallies(x, 0, 0, 0, 0, 1);
        // The window of 16 is 0 to 5: positions 2 and 4 are probed, on pages 0 and 1.
        due("get(16)", x.get(16), 160);
        dueTallies(x, 1, 2, 2, 0, 1);
        // For 17 positions 2, 4 and 5.
        refused("get(17)", ELEMENT, () -> x.get(17));
        dueTallies(x, 2, 5, 4, 0, 1);
        x.put(16, 5);
        x.remove(8);
        due("get of a changed key", x.get(16), 5);
        dueTallies(x, 3, 5, 4, 2, 1);
        refused("get of a removed key", ELEMENT, () -> x.get(8));
        dueTallies(x, 4, 5, 4, 4, 1);
        // The window of 1 is 0 to 3: positions 1 and 0, both on page 0.
        due("get(1)", x.get(1), 10);
        dueTallies(x, 5, 7, 5, 6, 1);
        x.set(PAGE_SIZE, 1);
        x.get(1);
        dueTallies(x, 6, 9, 7, 8, 1);
        refused("get on an empty index", ELEMENT, () -> new LearnedIndex().get(0));
    }

    private static void mergingByDebt() {
        LearnedIndex x = buffered(5);
        x.set(FACTOR, 1);
        due("get(5)", x.get(5), 50);
        due("merged with an empty main part", x.count(POSITIONS), 1);
        LearnedIndex y = merged(1, 2);
        y.put(3, 30);
        y.get(1);
        y.get(1);
        y.get(1);
        y.set(FACTOR, 1);
        due("setting the factor merges nothing", y.count(MERGINGS), 1);
        due("debt", y.count(DEBT), 3);
        refused("get(4)", ELEMENT, () -> y.get(4));
        due("merged in spite of the exception", y.count(MERGINGS), 2);
        due("debt", y.count(DEBT), 0);
        y.set(FACTOR, 9);
        y.put(4, 40);
        for (int i = 0; i < 27; i++) {
            y.get(1);
        }
        due("debt below 1 + 9 * 3", y.count(DEBT), 27);
        y.get(1);
        due("debt at 28", y.count(DEBT), 0);
        due("mergings", y.count(MERGINGS), 3);
        due("positions", y.count(POSITIONS), 4);
        due("entries", y.count(ENTRIES), 4);
    }

    private static void mergingOfAnEmptyBufferByDebt() {
        LearnedIndex x = buffered(5);
        x.get(5);
        x.get(5);
        x.remove(5);
        due("changes", x.count(CHANGES), 0);
        due("debt stays", x.count(DEBT), 2);
        x.set(FACTOR, 2);
        refused("get(5)", ELEMENT, () -> x.get(5));
        due("mergings", x.count(MERGINGS), 1);
        due("debt", x.count(DEBT), 0);
        x.put(1, 1);
        x.get(1);
        due("debt 1 merges an empty main part", x.count(MERGINGS), 2);
        x.get(1);
        x.get(1);
        due("no debt, no merging", x.count(MERGINGS), 2);
    }

    private static void contains() {
        LearnedIndex x = powers();
        refused("contains(-1)", ARGUMENT, () -> x.contains(-1));
        refused("contains(10000)", ARGUMENT, () -> x.contains(10000));
        x.remove(8);
        x.put(9, 1);
        due("in the main part", x.contains(16), true);
        due("removed", x.contains(8), false);
        due("new", x.contains(9), true);
        due("neither", x.contains(10), false);
        due("ends", x.contains(0) || x.contains(9999), false);
        x.set(FACTOR, 1);
        dueTallies(x, 0, 0, 0, 0, 1);
    }

    private static void count() {
        LearnedIndex x = powers();
        refused("count(-1)", ARGUMENT, () -> x.count(-1));
        refused("count(10)", ARGUMENT, () -> x.count(10));
        x.remove(8);
        x.put(9, 1);
        x.put(1, 1);
        int[] want = {7, 7, 3, 1, 1};
        for (int what = 0; what < 5; what++) {
            due("count(" + what + ")", x.count(what), want[what]);
        }
        x.get(16);
        dueTallies(x, 1, 2, 2, 3, 1);
        x.set(BOUND, 1);
        due("segments", x.count(SEGMENTS), 2);
    }

    private static void clear() {
        LearnedIndex x = powers();
        x.set(BOUND, 3);
        x.set(CAPACITY, 5);
        x.set(PAGE_SIZE, 6);
        x.set(FACTOR, 7);
        x.remove(8);
        x.put(9, 1);
        x.put(10, 1);
        x.get(16);
        x.feed('1');
        x.save();
        due("clear", x.clear(), 8);
        for (int what = 0; what < 10; what++) {
            due("count(" + what + ")", x.count(what), 0);
        }
        refused("main(0)", INDEX, () -> x.main(0, false));
        refused("segment(0)", INDEX, () -> x.segment(0, 0));
        refused("change(0)", INDEX, () -> x.change(0, 0));
        due("the input buffer stays", x.feed('!'), 2);
        due("bound stays", x.set(BOUND, 2), 3);
        due("capacity stays", x.set(CAPACITY, 8), 5);
        due("page size stays", x.set(PAGE_SIZE, 4), 6);
        due("factor stays", x.set(FACTOR, 0), 7);
        due("what was saved stays", x.restore(), 8);
        x.clear();
        due("clear of an empty index", x.clear(), 0);
    }

    private static void keyAt() {
        LearnedIndex x = mixed();
        int[] keys = {1, 2, 3, 16, 20, 32, 33};
        for (int rank = 0; rank < keys.length; rank++) {
            int r = rank;
            due("keyAt(" + rank + ")", x.keyAt(r), keys[rank]);
        }
        refused("keyAt(-1)", INDEX, () -> x.keyAt(-1));
        refused("keyAt(7)", INDEX, () -> x.keyAt(7));
        refused("keyAt(0) of an empty index", INDEX, () -> new LearnedIndex().keyAt(0));
    }

    private static void rank() {
        LearnedIndex x = mixed();
        due("rank(1)", x.rank(1), 0);
        due("rank(2)", x.rank(2), 1);
        due("rank(8)", x.rank(8), 3);
        due("rank(16)", x.rank(16), 3);
        due("rank(17)", x.rank(17), 4);
        due("rank(34)", x.rank(34), 7);
        due("rank of the greatest int", x.rank(Integer.MAX_VALUE), 7);
        due("rank of the least int", x.rank(Integer.MIN_VALUE), 0);
        due("rank in an empty index", new LearnedIndex().rank(5), 0);
    }

    private static void neighbor() {
        LearnedIndex x = mixed();
        due("up from 4", x.neighbor(4, true), 16);
        due("down from 8", x.neighbor(8, false), 3);
        due("up from a key", x.neighbor(20, true), 20);
        due("down from a key", x.neighbor(20, false), 20);
        due("up from the least int", x.neighbor(Integer.MIN_VALUE, true), 1);
        due("down from the greatest int", x.neighbor(Integer.MAX_VALUE, false), 33);
        due("down from the first key", x.neighbor(1, false), 1);
        due("up from the last key", x.neighbor(33, true), 33);
        refused("down from 0", ELEMENT, () -> x.neighbor(0, false));
        refused("up from 34", ELEMENT, () -> x.neighbor(34, true));
        refused("up from the greatest int", ELEMENT, () -> x.neighbor(Integer.MAX_VALUE, true));
        refused("down from the least int", ELEMENT, () -> x.neighbor(Integer.MIN_VALUE, false));
        refused("up in an empty index", ELEMENT, () -> new LearnedIndex().neighbor(0, true));
        refused("down in an empty index", ELEMENT, () -> new LearnedIndex().neighbor(0, false));
    }

    private static void sum() {
        LearnedIndex x = mixed();
        due("sum(2, 15)", x.sum(2, 15), 25L);
        due("sum(2, 2)", x.sum(2, 2), 20L);
        due("sum(3, 2)", x.sum(3, 2), 0L);
        due("sum(4, 15)", x.sum(4, 15), 0L);
        due("sum over all", x.sum(Integer.MIN_VALUE, Integer.MAX_VALUE), 2147483647L + 10 + 20 + 5 - 7 + 320 + 330);
        due("sum of nothing", x.sum(Integer.MAX_VALUE, Integer.MIN_VALUE), 0L);
        x.put(17, Integer.MAX_VALUE);
        due("sum over an int", x.sum(16, 17), 4294967294L);
        x.put(16, Integer.MIN_VALUE);
        x.put(17, Integer.MIN_VALUE);
        due("sum under an int", x.sum(16, 17), -4294967296L);
    }

    private static void main() {
        LearnedIndex x = mixed();
        due("key", x.main(3, false), 8);
        due("value of a removed key", x.main(3, true), 80);
        due("value of a changed key", x.main(4, true), 160);
        due("last key", x.main(6, false), 33);
        refused("main(-1)", INDEX, () -> x.main(-1, false));
        refused("main(7)", INDEX, () -> x.main(7, true));
        refused("main(0) of an empty main part", INDEX, () -> buffered(5).main(0, false));
    }

    private static void change() {
        LearnedIndex x = mixed();
        int[][] want = {{3, 0, 5}, {4, 1, 0}, {8, 1, 0}, {16, 0, Integer.MAX_VALUE}, {20, 0, -7}};
        for (int i = 0; i < want.length; i++) {
            for (int what = 0; what < 3; what++) {
                due("change(" + i + ", " + what + ")", x.change(i, what), want[i][what]);
            }
        }
        refused("change(-1, 0)", INDEX, () -> x.change(-1, 0));
        refused("change(5, 0)", INDEX, () -> x.change(5, 0));
        refused("change(5, 3)", INDEX, () -> x.change(5, 3));
        refused("change(0, -1)", ARGUMENT, () -> x.change(0, -1));
        refused("change(0, 3)", ARGUMENT, () -> x.change(0, 3));
        x.remove(16);
        due("value of a removal in place of a value", x.change(3, 2), 0);
        due("changes", x.count(CHANGES), 5);
    }

    private static void merge() {
        LearnedIndex x = mixed();
        x.get(1);
        due("debt", x.count(DEBT), 5);
        due("merge", x.merge(), 5);
        dueTallies(x, 1, 2, 1, 0, 2);
        int[] keys = {1, 2, 3, 16, 20, 32, 33};
        int[] values = {10, 20, 5, Integer.MAX_VALUE, -7, 320, 330};
        due("positions", x.count(POSITIONS), 7);
        for (int p = 0; p < keys.length; p++) {
            due("key " + p, x.main(p, false), keys[p]);
            due("value " + p, x.main(p, true), values[p]);
        }
        due("changes", x.count(CHANGES), 0);
        due("merge of an empty buffer", x.merge(), 0);
        due("counts", x.count(MERGINGS), 3);
        LearnedIndex y = merged(1, 2);
        y.remove(1);
        y.remove(2);
        due("segments before", y.count(SEGMENTS), 1);
        due("merge of removals", y.merge(), 2);
        due("segments", y.count(SEGMENTS), 0);
    }

    private static void set() {
        LearnedIndex x = new LearnedIndex();
        int[] least = {1, 1, 1, 0};
        int[] greatest = {8, 20, 16, 9};
        for (int i = 0; i < 4; i++) {
            int what = i;
            refused("set(" + i + ") below", ARGUMENT, () -> x.set(what, least[what] - 1));
            refused("set(" + i + ") above", ARGUMENT, () -> x.set(what, greatest[what] + 1));
            x.set(i, least[i]);
            due("set(" + i + ") from the least", x.set(i, greatest[i]), least[i]);
            due("set(" + i + ") from the greatest", x.set(i, least[i]), greatest[i]);
        }
        refused("set(-1)", ARGUMENT, () -> x.set(-1, 1));
        refused("set(4, 1)", ARGUMENT, () -> x.set(4, 1));
        refused("set(4, 0)", ARGUMENT, () -> x.set(4, 0));
        LearnedIndex y = powers();
        y.put(5, 5);
        y.put(6, 6);
        y.get(5);
        y.set(BOUND, 1);
        due("the bound builds the segments anew", y.count(SEGMENTS), 2);
        due("without merging", y.count(CHANGES), 2);
        due("the debt stays", y.count(DEBT), 2);
        y.set(CAPACITY, 2);
        due("as many as the capacity", y.count(CHANGES), 2);
        y.set(CAPACITY, 1);
        due("more than the capacity", y.count(CHANGES), 0);
        due("mergings", y.count(MERGINGS), 2);
        due("debt", y.count(DEBT), 0);
    }

    private static void segment() {
        dueSegment(powers(), 0, 0, 6, 1, 1, 7);
        LearnedIndex x = clusters();
        dueSegment(x, 0, 0, 2, 3, 1, 2);
        dueSegment(x, 1, 3, 5, 13, 1, 2);
        dueSegment(x, 2, 6, 6, 22, 0, 1);
        refused("segment(-1, 0)", INDEX, () -> x.segment(-1, 0));
        refused("segment(3, 0)", INDEX, () -> x.segment(3, 0));
        refused("segment(3, 5)", INDEX, () -> x.segment(3, 5));
        refused("segment(0, -1)", ARGUMENT, () -> x.segment(0, -1));
        refused("segment(0, 5)", ARGUMENT, () -> x.segment(0, 5));
        // Position 3 asks for 2/6, in lowest terms 1/3.
        LearnedIndex even = merged(0, 2, 4, 6);
        even.set(BOUND, 1);
        dueSegment(even, 0, 0, 3, 0, 1, 3);
        // With bound 2 no slope is needed up to position 2, however far its key is.
        dueSegment(merged(7, 8, 9999), 0, 0, 2, 7, 0, 1);
        segmentEnds();
    }

    private static void segmentEnds() {
        // Position 1 allows 2/10 and position 3 asks for 2/12, but position 4 for 3/13.
        LearnedIndex past = merged(0, 10, 11, 12, 13, 15);
        past.set(BOUND, 1);
        dueSegment(past, 0, 0, 3, 0, 1, 6);
        // Position 1 allows 2/10 and position 5 asks for just that, 4/20.
        LearnedIndex exact = merged(0, 10, 12, 14, 16, 20);
        exact.set(BOUND, 1);
        dueSegment(exact, 0, 0, 5, 0, 1, 5);
        // Here position 5 asks for 4/19.
        LearnedIndex over = merged(0, 10, 12, 14, 16, 19);
        over.set(BOUND, 1);
        dueSegment(over, 0, 0, 4, 0, 3, 16);
        dueSegment(over, 1, 5, 5, 19, 0, 1);
        // Position 4 asks for 3/4, and position 5 allows just that, 6/8, but with key 9 only 6/9.
        LearnedIndex steep = merged(0, 1, 2, 3, 4, 8, 9, 10);
        steep.set(BOUND, 1);
        dueSegment(steep, 0, 0, 7, 0, 3, 4);
        LearnedIndex flat = merged(0, 1, 2, 3, 4, 9, 10);
        flat.set(BOUND, 1);
        dueSegment(flat, 0, 0, 4, 0, 3, 4);
        dueSegment(flat, 1, 5, 6, 9, 0, 1);
    }

    private static void segmentOf() {
        LearnedIndex x = clusters();
        int[][] want = {{0, 0}, {3, 0}, {12, 0}, {13, 1}, {21, 1}, {22, 2}, {9999, 2}};
        for (int[] pair : want) {
            due("segmentOf(" + pair[0] + ")", x.segmentOf(pair[0]), pair[1]);
        }
        refused("segmentOf(-1)", ARGUMENT, () -> x.segmentOf(-1));
        refused("segmentOf(10000)", ARGUMENT, () -> x.segmentOf(10000));
        LearnedIndex empty = buffered(5);
        refused("segmentOf(5) without a main part", STATE, () -> empty.segmentOf(5));
        refused("segmentOf(-1) without a main part", ARGUMENT, () -> empty.segmentOf(-1));
    }

    private static void predict() {
        LearnedIndex x = powers();
        duePredictions(x, 0, 0, 0, 3, 1);
        duePredictions(x, 7, 0, 0, 3, 1);
        duePredictions(x, 8, 1, 0, 4, 2);
        duePredictions(x, 33, 4, 2, 6, 2);
        duePredictions(x, 9999, 6, 4, 6, 1);
        x.set(PAGE_SIZE, 1);
        duePredictions(x, 22, 3, 1, 6, 6);
        // Segments of slope 1/2 that bound their windows: 13 14 15 at 3 to 5, and what lies before 13 at 0 to 2.
        LearnedIndex y = clusters();
        duePredictions(y, 13, 3, 3, 5, 2);
        duePredictions(y, 15, 4, 3, 5, 2);
        duePredictions(y, 21, 5, 4, 5, 1);
        duePredictions(y, 12, 2, 1, 2, 1);
        duePredictions(y, 22, 6, 6, 6, 1);
        duePredictions(y, 0, 0, 0, 2, 1);
        refused("predict(-1, 0)", ARGUMENT, () -> x.predict(-1, 0));
        refused("predict(10000, 0)", ARGUMENT, () -> x.predict(10000, 0));
        refused("predict(1, -1)", ARGUMENT, () -> x.predict(1, -1));
        refused("predict(1, 4)", ARGUMENT, () -> x.predict(1, 4));
        LearnedIndex empty = buffered(5);
        refused("predict(5, 4) without a main part", ARGUMENT, () -> empty.predict(5, 4));
        refused("predict(5, 0) without a main part", STATE, () -> empty.predict(5, 0));
    }

    private static void worst() {
        // Predictions 0 0 0 1 2 4 4 for positions 0 to 6.
        due("worst of the powers", powers().worst(), 2);
        due("worst of the clusters", clusters().worst(), 1);
        due("worst without a main part", buffered(5, 6).worst(), 0);
        due("worst of one key", merged(5).worst(), 0);
        // With bound 8 nothing needs a slope, so that all nine are predicted at 0.
        LearnedIndex x = merged(0, 1, 2, 3, 4, 5, 6, 7, 8);
        x.set(BOUND, 8);
        due("worst with bound 8", x.worst(), 8);
    }

    private static void fewest() {
        LearnedIndex x = clusters();
        due("segments of the clusters", x.count(SEGMENTS), 3);
        due("fewest(1)", x.fewest(1), 2);
        due("fewest(2)", x.fewest(2), 1);
        x.set(BOUND, 8);
        due("fewest(1) with another bound set", x.fewest(1), 2);
        due("the bound that is set stays", x.count(SEGMENTS), 1);
        refused("fewest(0)", ARGUMENT, () -> x.fewest(0));
        refused("fewest(9)", ARGUMENT, () -> x.fewest(9));
        due("fewest(8)", x.fewest(8), 1);
        due("fewest without a main part", buffered(5).fewest(1), 0);
        refused("fewest(0) without a main part", ARGUMENT, () -> buffered(5).fewest(0));
        // Position 4 asks for 3/4, and position 5 allows 6/9.
        due("fewest of a run and one key", merged(0, 1, 2, 3, 4, 9).fewest(1), 2);
        due("fewest of one key", merged(5).fewest(1), 1);
    }

    private static void leastBound() {
        LearnedIndex x = clusters();
        x.set(BOUND, 8);
        due("leastBound(3)", x.leastBound(3), 1);
        // Two runs would be enough with bound 1, but the segments are three.
        due("leastBound(2)", x.leastBound(2), 2);
        due("leastBound(1)", x.leastBound(1), 2);
        due("leastBound(greatest int)", x.leastBound(Integer.MAX_VALUE), 1);
        due("the bound that is set stays", x.set(BOUND, 8), 8);
        due("and its segments", x.count(SEGMENTS), 1);
        refused("leastBound(-1)", ARGUMENT, () -> x.leastBound(-1));
        refused("leastBound(0)", ELEMENT, () -> x.leastBound(0));
        LearnedIndex empty = buffered(5);
        due("leastBound(0) without a main part", empty.leastBound(0), 1);
        refused("leastBound(-1) without a main part", ARGUMENT, () -> empty.leastBound(-1));
        due("leastBound(1) of 18 keys", farThenClose(18).leastBound(1), 8);
        refused("leastBound(1) of 19 keys", ELEMENT, () -> farThenClose(19).leastBound(1));
    }

    private static void probes() {
        LearnedIndex x = powers();
        x.put(16, 1);
        x.remove(8);
        due("probes(16)", x.probes(16), 2);
        due("probes(17)", x.probes(17), 3);
        // The window of 8 is 0 to 4: positions 2 and 3.
        due("probes(8)", x.probes(8), 2);
        due("probes(0)", x.probes(0), 2);
        due("probes(9999)", x.probes(9999), 2);
        dueTallies(x, 0, 0, 0, 0, 1);
        x.set(FACTOR, 1);
        x.probes(1);
        due("no merging", x.count(CHANGES), 2);
        refused("probes(-1)", ARGUMENT, () -> x.probes(-1));
        refused("probes(10000)", ARGUMENT, () -> x.probes(10000));
        due("probes without a main part", buffered(5).probes(5), 0);
        due("probes of one key", merged(5).probes(5), 1);
        due("probes near one key", merged(5).probes(6), 1);
    }

    private static void meanWindow() {
        // Windows 0-3, 0-3, 0-3, 0-4, 0-5, 2-6 and 2-6.
        due("meanWindow of the powers", powers().meanWindow(), 33.0 / 7);
        // 0-2, 0-2, 0-2 for predictions 0 0 1 twice, and one of a single position.
        due("meanWindow of the clusters", clusters().meanWindow(), 19.0 / 7);
        LearnedIndex x = powers();
        x.remove(1);
        x.put(9, 9);
        due("whatever the buffer has", x.meanWindow(), 33.0 / 7);
        due("meanWindow of one key", merged(5).meanWindow(), 1.0);
        refused("meanWindow without a main part", ARITHMETIC, () -> buffered(5).meanWindow());
    }

    private static void meanProbes() {
        LearnedIndex x = powers();
        refused("meanProbes without lookups", ARITHMETIC, x::meanProbes);
        x.get(16);
        due("after one lookup", x.meanProbes(), 2.0f);
        x.get(16);
        refused("get(17)", ELEMENT, () -> x.get(17));
        due("after three", x.meanProbes(), 7.0f / 3.0f);
        x.put(16, 1);
        x.get(16);
        due("after one in the buffer", x.meanProbes(), 1.75f);
        x.clear();
        refused("after clear", ARITHMETIC, x::meanProbes);
        refused("get on an empty index", ELEMENT, () -> x.get(1));
        due("without probes", x.meanProbes(), 0.0f);
    }

    private static void feed() {
        LearnedIndex x = new LearnedIndex();
        for (int i = 1; i <= 100; i++) {
            due("feed " + i, x.feed((char) (i * 600)), i);
        }
        refused("feed 101", STATE, () -> x.feed('1'));
        refused("feed 101 again", STATE, () -> x.feed('1'));
        due("the letters stay", x.load(), -100);
        due("feed after load", x.feed('1'), 1);
    }

    private static void dueLoad(String text, int want) {
        LearnedIndex x = new LearnedIndex();
        due("load of " + text, loaded(x, text), want);
        due("the input buffer after " + text, x.feed('1'), 1);
        if (want < 0) {
            due("changes after " + text, x.count(CHANGES), 0);
        }
    }

    private static void loadSyntax() {
        String[] errors = {";", "=1", "!", "-1=1", "x", " 1=1", "\u0661=1", "\u00e9"};
        for (String text : errors) {
            dueLoad(text, -100);
        }
        dueLoad("", 0);
        dueLoad("0=0", 1);
        dueLoad("0001=-0009", 1);
        dueLoad("9999=9999;9999!", 2);
        dueLoad("1!;2!;3=-0", 3);
        dueLoad("5", -101);
        dueLoad("5x", -101);
        dueLoad("1234", -104);
        dueLoad("12345=1", -104);
        dueLoad("00001=1", -104);
        dueLoad("5=", -102);
        dueLoad("5=;", -102);
        dueLoad("5=-", -103);
        dueLoad("5=--1", -103);
        dueLoad("5=+1", -102);
        dueLoad("5=1;", -104);
        dueLoad("5=1;;", -104);
        dueLoad("5=1 ", -103);
        dueLoad("5=1-", -103);
        dueLoad("5=12345", -106);
        dueLoad("5=-12345", -107);
        dueLoad("5=1=", -103);
        dueLoad("5=1!", -103);
        dueLoad("5!!", -102);
        dueLoad("5!1", -102);
        dueLoad("5!;", -103);
        dueLoad("1=1;2!;3x", -108);
        dueLoad("1!;".repeat(32) + "1=-1", 33);
        dueLoad("1!;".repeat(33) + "1", -200);
        dueLoad("1!;".repeat(33) + ";", -199);
    }

    private static void load() {
        loadSyntax();
        LearnedIndex x = powers();
        due("load", loaded(x, "8=-0007;16!;3!;5=0;0005=12;33=-0"), 6);
        due("get(8)", x.get(8), -7);
        due("contains(16)", x.contains(16), false);
        due("get(5)", x.get(5), 12);
        due("get(33)", x.get(33), 0);
        due("changes", x.count(CHANGES), 4);
        due("a second load", x.load(), 0);
        due("a text that undoes itself", loaded(x, "7=1;7!;7!"), 3);
        due("changes", x.count(CHANGES), 4);
        due("error behind an entry", loaded(x, "7=1;8"), -105);
        due("nothing is applied", x.contains(7), false);
        x.feed('7');
        x.load();
        due("a removal as remove does", loaded(x, "5!"), 1);
        due("changes", x.count(CHANGES), 3);
    }

    private static void loadMerges() {
        LearnedIndex x = new LearnedIndex();
        x.set(CAPACITY, 2);
        due("load", loaded(x, "1=1;2=2;3=3;4=4;5=5;6=6;7=7"), 7);
        due("mergings", x.count(MERGINGS), 2);
        due("positions", x.count(POSITIONS), 6);
        due("changes", x.count(CHANGES), 1);
        due("load", loaded(x, "7!;1!;2!;1!;9!"), 5);
        due("removals", x.count(REMOVALS), 2);
        due("mergings", x.count(MERGINGS), 2);
        due("load", loaded(x, "3!;1=1"), 2);
        due("mergings", x.count(MERGINGS), 3);
        due("positions", x.count(POSITIONS), 3);
        due("last change", x.change(0, 0), 1);
    }

    private static void loadOverflow() {
        LearnedIndex x = full();
        refused("entry 151", STATE, () -> loaded(x, "66!;1=1;2=1"));
        due("nothing is applied", x.contains(66), true);
        due("the input buffer is empty", x.feed('1'), 1);
        // The letter that was fed stands before these.
        due("syntax before overflow", loaded(x, "=1;2=1;"), -108);
        due("one for one", loaded(x, "66!;1=1;1=2;66!"), 4);
        refused("too many for a while", STATE, () -> loaded(x, "2=1;2!"));
        refused("removed, put, and one more", STATE, () -> loaded(x, "1!;1=1;2=1"));
        refused("removed twice", STATE, () -> loaded(x, "1!;1!;2=1;3=1"));
        due("values of keys that are there", loaded(x, "0=5;1=5;132=5"), 3);
        due("entries", x.count(ENTRIES), 150);
        x.remove(0);
        due("up to 150", loaded(x, "3=1"), 1);
        due("entries", x.count(ENTRIES), 150);
    }

    private static void save() {
        LearnedIndex x = mixed();
        x.get(16);
        due("save", x.save(), 7);
        dueTallies(x, 1, 0, 0, 5, 1);
        due("changes", x.count(CHANGES), 5);
        x.put(50, 1);
        due("save anew", x.save(), 8);
        x.clear();
        due("in place of the first", x.restore(), 8);
        LearnedIndex empty = new LearnedIndex();
        due("save of an empty index", empty.save(), 0);
        empty.put(1, 1);
        due("restore of an empty index", empty.restore(), 0);
        due("contains(1)", empty.contains(1), false);
    }

    private static void restore() {
        LearnedIndex x = mixed();
        refused("restore of nothing", STATE, x::restore);
        x.set(BOUND, 1);
        x.set(PAGE_SIZE, 3);
        x.set(CAPACITY, 9);
        x.set(FACTOR, 4);
        x.get(16);
        x.save();
        x.feed('5');
        x.merge();
        x.set(BOUND, 8);
        x.set(PAGE_SIZE, 5);
        x.set(CAPACITY, 1);
        x.set(FACTOR, 5);
        x.put(60, 1);
        x.put(61, 1);
        x.get(60);
        for (int time = 0; time < 2; time++) {
            due("restore", x.restore(), 7);
            dueTallies(x, 1, 0, 0, 5, 1);
            due("positions", x.count(POSITIONS), 7);
            due("third change", x.change(2, 1), 1);
            due("main part", x.main(3, true), 80);
            due("segments", x.count(SEGMENTS), 2);
            due("bound", x.set(BOUND, 8), 1);
            due("capacity", x.set(CAPACITY, 20), 9);
            due("page size", x.set(PAGE_SIZE, 2), 3);
            due("factor", x.set(FACTOR, 0), 4);
            x.clear();
        }
        due("the input buffer stays", x.feed('!'), 2);
        x.restore();
        dueSegment(x, 0, 0, 4, 1, 1, 3);
        dueSegment(x, 1, 5, 6, 32, 0, 1);
    }

    public static void main(String[] args) {
        Runnable[][] tests = {
            {PromiseTests::aNewObject},
            {PromiseTests::put, PromiseTests::putOverflow, PromiseTests::mergingByCapacity},
            {PromiseTests::remove},
            {PromiseTests::get, PromiseTests::mergingByDebt, PromiseTests::mergingOfAnEmptyBufferByDebt},
            {PromiseTests::contains}, {PromiseTests::count}, {PromiseTests::clear},
            {PromiseTests::keyAt}, {PromiseTests::rank}, {PromiseTests::neighbor}, {PromiseTests::sum},
            {PromiseTests::main}, {PromiseTests::change}, {PromiseTests::merge}, {PromiseTests::set},
            {PromiseTests::segment}, {PromiseTests::segmentOf}, {PromiseTests::predict},
            {PromiseTests::worst}, {PromiseTests::fewest}, {PromiseTests::leastBound},
            {PromiseTests::probes}, {PromiseTests::meanWindow}, {PromiseTests::meanProbes},
            {PromiseTests::feed}, {PromiseTests::load, PromiseTests::loadMerges, PromiseTests::loadOverflow},
            {PromiseTests::save}, {PromiseTests::restore},
        };
        for (int i = 0; i < tests.length; i++) {
            subject = "promise " + (i + 1);
            for (Runnable test : tests[i]) {
                run(test);
            }
        }
        end();
    }
}
