import java.io.IOException;
import java.util.function.Supplier;

/** Each sentence of the document outside its promises, with the boundaries that it names. */
public final class DescriptionTests extends Sentences {
    private static final int[] BAD_KEYS = {-1, 10000, Integer.MIN_VALUE, Integer.MAX_VALUE};

    // ---- What it is

    /** Each thing that the first sentence names, in its order. */
    private static void allThatItIs() {
        LearnedIndex x = powers();
        due("sorted keys", x.main(2, false), 4);
        due("with values", x.main(2, true), 40);
        dueSegment(x, 0, 0, 6, 1, 1, 7);
        duePredictions(x, 22, 3, 1, 6, 2);
        due("a bounded error", x.worst(), 2);
        x.set(CAPACITY, 2);
        x.put(5, 50);
        x.remove(8);
        due("a buffer of changes", x.count(CHANGES), 2);
        x.put(40, 400);
        due("merged by capacity", x.count(CHANGES), 0);
        x.put(6, 60);
        x.set(FACTOR, 1);
        for (int i = 0; i < 9; i++) {
            x.get(6);
        }
        due("merged by cost", x.count(CHANGES), 0);
        x.get(1);
        due("pages that are touched", x.count(PAGES), 1);
        x.put(3, 30);
        due("order statistics over both parts", x.keyAt(2), 3);
        due("texts of entries", loaded(x, "3!;7=70"), 2);
        due("keys below 8", x.rank(8), 6);
    }

    private static void putsIn512Calls() {
        LearnedIndex x = new LearnedIndex();
        x.set(CAPACITY, 20);
        long sum = 0;
        for (int i = 0; i < 508; i++) {
            due("put " + i, x.put(i % 150 * 66, i), i < 150 ? 1 : 0);
            sum += i < 508 - 150 ? 0 : i;
        }
        due("sum", x.sum(0, 9999), sum);
        due("mergings", x.count(MERGINGS), 508 / 21);
        due("changes", x.count(CHANGES), 508 % 21);
    }

    private static void lookupsIn512Calls() {
        LearnedIndex x = new LearnedIndex();
        x.set(CAPACITY, 20);
        for (int key = 1; key <= 20; key++) {
            x.put(key, key);
        }
        for (int i = 0; i < 488; i++) {
            due("get", x.get(20), 20);
        }
        due("debt", x.count(DEBT), 488 * 20);
        due("lookups", x.count(LOOKUPS), 488);
        due("mean of the probes", x.meanProbes(), 0.0f);
        LearnedIndex y = powers();
        for (int i = 0; i < 499; i++) {
            // Positions 2 and 4 are probed, on two pages.
            due("get", y.get(16), 160);
        }
        dueTallies(y, 499, 998, 998, 0, 1);
    }

    private static void mergingsIn512Calls() {
        LearnedIndex x = new LearnedIndex();
        for (int i = 0; i < 255; i++) {
            x.put(i % 150, i);
            due("merge " + i, x.merge(), 1);
        }
        due("mergings", x.count(MERGINGS), 255);
        due("positions", x.count(POSITIONS), 150);
    }

    private static void textsIn512Calls() {
        LearnedIndex x = new LearnedIndex();
        for (int i = 0; i < 5; i++) {
            feedAll(x, "1!;".repeat(32) + i + "=-" + i);
            due("load " + i, x.load(), 33);
        }
        due("entries", x.count(ENTRIES), 4);
        due("sum", x.sum(0, 9), -9L);
    }

    private static void snapshotsIn512Calls() {
        LearnedIndex x = new LearnedIndex();
        for (int i = 0; i < 127; i++) {
            x.put(i, i);
            due("save " + i, x.save(), i + 1);
            due("clear " + i, x.clear(), i + 1);
            due("restore " + i, x.restore(), i + 1);
        }
        due("entries", x.count(ENTRIES), 127);
        due("mergings", x.count(MERGINGS), 14);
    }

    private static void answersIn512Calls() {
        LearnedIndex x = mixed();
        for (int i = 0; i < 29; i++) {
            due("contains", x.contains(16), true);
            due("keyAt", x.keyAt(6), 33);
            due("rank", x.rank(17), 4);
            due("neighbor", x.neighbor(17, false), 16);
            due("sum", x.sum(17, 32), 313L);
            due("main", x.main(6, true), 330);
            due("change", x.change(4, 2), -7);
            due("segmentOf", x.segmentOf(16), 0);
            due("predict", x.predict(33, 0), 4);
            due("worst", x.worst(), 2);
            due("fewest", x.fewest(1), 2);
            due("leastBound", x.leastBound(1), 2);
            due("probes", x.probes(33), 3);
            due("meanWindow", x.meanWindow(), 33.0 / 7.0);
            refused("meanProbes", ARITHMETIC, x::meanProbes);
            refused("put", ARGUMENT, () -> x.put(-1, 1));
        }
        dueSegment(x, 0, 0, 6, 1, 1, 7);
        dueTallies(x, 0, 0, 0, 0, 1);
        due("changes", x.count(CHANGES), 5);
    }

    // ---- Description

    private static void twoFloatingPointNumbers() {
        LearnedIndex x = powers();
        x.get(16);
        x.get(16);
        refused("get(17)", ELEMENT, () -> x.get(17));
        due("meanWindow", x.meanWindow(), 33.0 / 7.0);
        due("meanProbes", x.meanProbes(), 7.0f / 3.0f);
    }

    /** Both parts, snapshot, input buffer, settings and counts have something in them here. */
    private static LearnedIndex rich() {
        LearnedIndex x = clusters();
        x.set(PAGE_SIZE, 3);
        x.set(FACTOR, 9);
        x.set(CAPACITY, 9);
        x.save();
        x.put(4, -4);
        x.remove(13);
        x.put(20, 7);
        x.get(3);
        x.get(4);
        feedAll(x, "7=7;22!");
        return x;
    }

    private static LearnedIndex unmerged() {
        LearnedIndex x = buffered(5, 6);
        feedAll(x, "7=7");
        return x;
    }

    private static LearnedIndex withFullInput() {
        LearnedIndex x = merged(5);
        feedAll(x, "5=1;".repeat(24) + "6=23");
        return x;
    }

    private interface Refusal {
        Object of(LearnedIndex x);
    }

    /** The refused object must show the same picture as one that has never been asked. */
    private static void dueUnchanged(String what, Class<?> exception, Supplier<LearnedIndex> maker, Refusal refusal) {
        LearnedIndex x = maker.get();
        refused(what, exception, () -> refusal.of(x));
        due("the state after " + what, Picture.of(x), Picture.of(maker.get()));
    }

    private static void refusedKeysChangeNothing() {
        for (int key : BAD_KEYS) {
            Supplier<LearnedIndex> rich = DescriptionTests::rich;
            dueUnchanged("put(" + key + ")", ARGUMENT, rich, x -> x.put(key, 1));
            dueUnchanged("remove(" + key + ")", ARGUMENT, rich, x -> x.remove(key));
            dueUnchanged("get(" + key + ")", ARGUMENT, rich, x -> x.get(key));
            dueUnchanged("contains(" + key + ")", ARGUMENT, rich, x -> x.contains(key));
            dueUnchanged("segmentOf(" + key + ")", ARGUMENT, rich, x -> x.segmentOf(key));
            dueUnchanged("predict(" + key + ")", ARGUMENT, rich, x -> x.predict(key, 0));
            dueUnchanged("probes(" + key + ")", ARGUMENT, rich, x -> x.probes(key));
        }
    }

    private static void refusedArgumentsChangeNothing() {
        Supplier<LearnedIndex> rich = DescriptionTests::rich;
        int[][] settings = {{-1, 1}, {4, 1}, {0, 0}, {0, 9}, {1, 0}, {1, 21}, {2, 0}, {2, 17}, {3, -1}, {3, 10}};
        for (int[] pair : settings) {
            dueUnchanged("set(" + pair[0] + ", " + pair[1] + ")", ARGUMENT, rich, x -> x.set(pair[0], pair[1]));
        }
        for (int wrong : new int[] {-1, 10}) {
            dueUnchanged("count(" + wrong + ")", ARGUMENT, rich, x -> x.count(wrong));
            dueUnchanged("change(0, " + wrong + ")", ARGUMENT, rich, x -> x.change(0, wrong));
            dueUnchanged("segment(0, " + wrong + ")", ARGUMENT, rich, x -> x.segment(0, wrong));
            dueUnchanged("predict(3, " + wrong + ")", ARGUMENT, rich, x -> x.predict(3, wrong));
            dueUnchanged("fewest(" + wrong + ")", ARGUMENT, rich, x -> x.fewest(wrong));
            dueUnchanged("keyAt(" + wrong + ")", INDEX, rich, x -> x.keyAt(wrong));
            dueUnchanged("main(" + wrong + ")", INDEX, rich, x -> x.main(wrong, true));
            dueUnchanged("change(" + wrong + ", 0)", INDEX, rich, x -> x.change(wrong, 0));
            dueUnchanged("segment(" + wrong + ", 0)", INDEX, rich, x -> x.segment(wrong, 0));
        }
        dueUnchanged("leastBound(-1)", ARGUMENT, rich, x -> x.leastBound(-1));
    }

    private static void refusedStatesChangeNothing() {
        Supplier<LearnedIndex> rich = DescriptionTests::rich;
        dueUnchanged("remove(13)", ELEMENT, rich, x -> x.remove(13));
        dueUnchanged("remove(9)", ELEMENT, rich, x -> x.remove(9));
        dueUnchanged("neighbor(23, true)", ELEMENT, rich, x -> x.neighbor(23, true));
        dueUnchanged("neighbor(2, false)", ELEMENT, rich, x -> x.neighbor(2, false));
        dueUnchanged("leastBound(0)", ELEMENT, rich, x -> x.leastBound(0));
        Supplier<LearnedIndex> unmerged = DescriptionTests::unmerged;
        dueUnchanged("segmentOf(5)", STATE, unmerged, x -> x.segmentOf(5));
        dueUnchanged("predict(5, 0)", STATE, unmerged, x -> x.predict(5, 0));
        dueUnchanged("meanWindow()", ARITHMETIC, unmerged, LearnedIndex::meanWindow);
        dueUnchanged("meanProbes()", ARITHMETIC, unmerged, LearnedIndex::meanProbes);
        dueUnchanged("restore()", STATE, unmerged, LearnedIndex::restore);
        dueUnchanged("put(1) into a full index", STATE, DescriptionTests::full, x -> x.put(1, 1));
        dueUnchanged("feed into a full buffer", STATE, DescriptionTests::withFullInput, x -> x.feed('1'));
    }

    private static void anErrorCodeChangesNothing() {
        LearnedIndex x = rich();
        due("load of a wrong text", loaded(x, ";30=1;3=3;;"), -117);
        LearnedIndex untouched = rich();
        LearnedIndex other = rich();
        due("load of a text", untouched.load(), 2);
        due("restore", untouched.restore(), 7);
        due("restore after the error", x.restore(), 7);
        due("what was saved", Picture.of(x), Picture.of(untouched));
        LearnedIndex y = rich();
        due("load of a wrong text", loaded(y, ";30=1;3=3;;"), -117);
        feedAll(y, "7=7;22!");
        due("the state after the error", Picture.of(y), Picture.of(other));
    }

    private static void theFirstNamedIsThrown() {
        LearnedIndex full = full();
        refused("put of no key into a full index", ARGUMENT, () -> full.put(-1, 1));
        LearnedIndex x = unmerged();
        refused("remove of no key", ARGUMENT, () -> x.remove(10000));
        refused("get of no key", ARGUMENT, () -> x.get(10000));
        refused("change of no change and no part", INDEX, () -> x.change(2, 3));
        refused("segment of no segment and no number", INDEX, () -> x.segment(0, 5));
        refused("segmentOf of no key without a main part", ARGUMENT, () -> x.segmentOf(-1));
        refused("predict of no key without a main part", ARGUMENT, () -> x.predict(-1, 0));
        refused("predict of no number without a main part", ARGUMENT, () -> x.predict(5, 4));
        refused("leastBound of a negative number", ARGUMENT, () -> merged(1).leastBound(-1));
    }

    // ---- Entries

    private static void keysFrom0To9999() {
        for (int key : BAD_KEYS) {
            LearnedIndex x = merged(0, 9999);
            refused("put(" + key + ")", ARGUMENT, () -> x.put(key, 1));
            refused("get(" + key + ")", ARGUMENT, () -> x.get(key));
            refused("contains(" + key + ")", ARGUMENT, () -> x.contains(key));
            refused("remove(" + key + ")", ARGUMENT, () -> x.remove(key));
        }
        LearnedIndex y = new LearnedIndex();
        for (int key : new int[] {0, 1, 9998, 9999}) {
            due("put(" + key + ")", y.put(key, 5), 1);
            due("get(" + key + ")", y.get(key), 5);
            due("contains(" + key + ")", y.contains(key), true);
            due("remove(" + key + ")", y.remove(key), 5);
        }
    }

    private static void anyIntAsValue() {
        for (int value : new int[] {Integer.MIN_VALUE, -1, 0, 1, Integer.MAX_VALUE}) {
            LearnedIndex x = new LearnedIndex();
            x.put(7, value);
            due("value in the buffer", x.get(7), value);
            due("value of the change", x.change(0, 2), value);
            x.merge();
            due("value in the main part", x.get(7), value);
            due("value of the position", x.main(0, true), value);
            due("removed value", x.remove(7), value);
        }
    }

    private static void oneEntryForEachKey() {
        LearnedIndex x = new LearnedIndex();
        x.put(5, 1);
        x.put(5, 2);
        due("entries after two values", x.count(ENTRIES), 1);
        x.merge();
        x.put(5, 3);
        due("entries with a key in both parts", x.count(ENTRIES), 1);
        due("rank above it", x.rank(6), 1);
        due("its value", x.sum(5, 5), 3L);
        x.merge();
        due("positions", x.count(POSITIONS), 1);
    }

    private static void atMost150Entries() {
        LearnedIndex x = full();
        due("entries", x.count(ENTRIES), 150);
        due("positions", x.count(POSITIONS), 144);
        refused("put of entry 151", STATE, () -> x.put(9999, 1));
        x.merge();
        due("positions", x.count(POSITIONS), 150);
        refused("put of entry 151 beside 150 positions", STATE, () -> x.put(9999, 1));
        x.remove(0);
        due("put in place of a removed one", x.put(9999, 1), 1);
        refused("put of entry 151 beside a removal", STATE, () -> x.put(0, 1));
        due("changes", x.count(CHANGES), 2);
        due("keys below 10000", x.rank(10000), 150);
    }

    private static void positionsFrom0() {
        LearnedIndex x = merged(30, 10, 20);
        due("key 0", x.main(0, false), 10);
        due("key 1", x.main(1, false), 20);
        due("key 2", x.main(2, false), 30);
        refused("key 3", INDEX, () -> x.main(3, false));
        refused("key -1", INDEX, () -> x.main(-1, false));
    }

    private static void changesFrom0() {
        LearnedIndex x = merged(10, 20, 30);
        x.put(25, 1);
        x.remove(20);
        x.put(5, 1);
        x.put(25, 2);
        int[] keys = {5, 20, 25};
        due("changes", x.count(CHANGES), 3);
        for (int i = 0; i < 3; i++) {
            due("change(" + i + ")", x.change(i, 0), keys[i]);
        }
        refused("change(3)", INDEX, () -> x.change(3, 0));
        refused("change(-1)", INDEX, () -> x.change(-1, 0));
    }

    private static void aNewValueOrARemoval() {
        LearnedIndex x = merged(10, 20);
        x.put(10, 0);
        x.remove(20);
        due("a new value is no removal", x.change(0, 1), 0);
        due("a removal is one", x.change(1, 1), 1);
        due("removals", x.count(REMOVALS), 1);
    }

    private static void contentsOfBothParts() {
        LearnedIndex x = mixed();
        int[] keys = {1, 2, 3, 16, 20, 32, 33};
        long[] values = {10, 20, 5, Integer.MAX_VALUE, -7, 320, 330};
        due("entries", x.count(ENTRIES), 7);
        for (int rank = 0; rank < keys.length; rank++) {
            due("key " + rank, x.keyAt(rank), keys[rank]);
            due("value " + rank, x.sum(keys[rank], keys[rank]), values[rank]);
        }
        LearnedIndex y = merged(10, 20);
        y.remove(10);
        y.remove(20);
        due("entries when all are removed", y.count(ENTRIES), 0);
        due("positions of the removed", y.count(POSITIONS), 2);
    }

    // ---- Changes

    private static void aKeyOfTheMainPart() {
        LearnedIndex x = merged(10, 20, 30);
        x.put(20, 1);
        due("a value is a change", x.count(CHANGES), 1);
        x.put(20, 2);
        due("in place of the value", x.count(CHANGES), 1);
        due("the new value", x.change(0, 2), 2);
        x.remove(20);
        due("a removal in place of the value", x.count(CHANGES), 1);
        due("is a removal", x.change(0, 1), 1);
        due("without a value", x.change(0, 2), 0);
        x.put(20, 3);
        due("a value in place of the removal", x.count(CHANGES), 1);
        due("is no removal", x.change(0, 1), 0);
        due("the main part stays", x.main(1, true), 200);
    }

    private static void aKeyNotInTheMainPart() {
        LearnedIndex x = merged(10, 20, 30);
        x.put(5, 1);
        x.put(25, 2);
        x.put(35, 3);
        x.put(25, 4);
        due("changes", x.count(CHANGES), 3);
        due("the new value", x.change(1, 2), 4);
        due("remove(25)", x.remove(25), 4);
        due("its change is taken out", x.count(CHANGES), 2);
        due("the one before", x.change(0, 0), 5);
        due("the one behind", x.change(1, 0), 35);
        due("no removal", x.count(REMOVALS), 0);
        x.remove(35);
        x.remove(5);
        due("the buffer is empty", x.count(CHANGES), 0);
    }

    // ---- Merging

    private static void whatMergingMakes() {
        LearnedIndex x = mixed();
        x.merge();
        int[] keys = {1, 2, 3, 16, 20, 32, 33};
        int[] values = {10, 20, 5, Integer.MAX_VALUE, -7, 320, 330};
        due("positions", x.count(POSITIONS), 7);
        for (int p = 0; p < keys.length; p++) {
            due("key at " + p, x.main(p, false), keys[p]);
            due("value at " + p, x.main(p, true), values[p]);
        }
        due("changes", x.count(CHANGES), 0);
        // 1/15, 2/19, 3/31 and 4/32 are asked for; 1/7 was before.
        dueSegment(x, 0, 0, 6, 1, 1, 8);
        LearnedIndex y = merged(1, 2);
        y.remove(1);
        y.remove(2);
        y.merge();
        due("positions when all are removed", y.count(POSITIONS), 0);
        due("segments when all are removed", y.count(SEGMENTS), 0);
    }

    private static void capacityFrom1To20() {
        LearnedIndex x = new LearnedIndex();
        due("capacity at first", x.set(CAPACITY, 1), 8);
        due("the least", x.set(CAPACITY, 20), 1);
        due("the greatest", x.set(CAPACITY, 8), 20);
        refused("capacity 0", ARGUMENT, () -> x.set(CAPACITY, 0));
        refused("capacity 21", ARGUMENT, () -> x.set(CAPACITY, 21));
    }

    private static void mergedAboveTheCapacity() {
        for (int capacity : new int[] {1, 8, 20}) {
            LearnedIndex x = new LearnedIndex();
            due("capacity before", x.set(CAPACITY, capacity), 8);
            for (int key = 1; key <= capacity; key++) {
                x.put(key, key);
            }
            due("changes at capacity " + capacity, x.count(CHANGES), capacity);
            x.put(capacity, 0);
            due("mergings at capacity " + capacity, x.count(MERGINGS), 0);
            x.put(capacity + 1, 0);
            due("changes above capacity " + capacity, x.count(CHANGES), 0);
            due("mergings above capacity " + capacity, x.count(MERGINGS), 1);
            for (int key = 1; key <= capacity; key++) {
                x.remove(key);
            }
            due("removals at capacity " + capacity, x.count(REMOVALS), capacity);
            x.remove(capacity + 1);
            due("removals above capacity " + capacity, x.count(REMOVALS), 0);
            due("mergings by removals " + capacity, x.count(MERGINGS), 2);
            due("positions", x.count(POSITIONS), 0);
        }
    }

    // ---- Segments

    private static void boundFrom1To8() {
        LearnedIndex x = new LearnedIndex();
        due("bound at first", x.set(BOUND, 1), 2);
        due("the least", x.set(BOUND, 8), 1);
        due("the greatest", x.set(BOUND, 2), 8);
        refused("bound 0", ARGUMENT, () -> x.set(BOUND, 0));
        refused("bound 9", ARGUMENT, () -> x.set(BOUND, 9));
        // 0 1000 1002 1003 1004 1005 are as many as one segment of bound 2 can have.
        due("segments of the first bound", farThenClose(6).count(SEGMENTS), 1);
        due("one key more", farThenClose(7).count(SEGMENTS), 2);
    }

    private static void byAtMostTheBound() {
        for (int bound = 1; bound <= 8; bound++) {
            LearnedIndex x = farThenClose(2 * bound + 3);
            x.set(BOUND, bound);
            due("segments with bound " + bound, x.count(SEGMENTS), 2);
            due("last position of the first with bound " + bound, x.segment(0, 1), 2 * bound + 1);
        }
        // Position 1 allows 2/10 and position 5 asks for just that, 4/20, or with key 19 for a little more.
        LearnedIndex just = merged(0, 10, 12, 14, 16, 20);
        just.set(BOUND, 1);
        due("segments with a difference of just the bound", just.count(SEGMENTS), 1);
        LearnedIndex above = merged(0, 10, 12, 14, 16, 19);
        above.set(BOUND, 1);
        due("segments with a difference above the bound", above.count(SEGMENTS), 2);
        // Position 4 asks for 3/4, and position 5 allows just that, 6/8, or with key 9 a little less.
        LearnedIndex low = merged(0, 1, 2, 3, 4, 8);
        low.set(BOUND, 1);
        due("segments with a difference of just the bound below", low.count(SEGMENTS), 1);
        LearnedIndex lower = merged(0, 1, 2, 3, 4, 9);
        lower.set(BOUND, 1);
        due("segments with a difference above the bound below", lower.count(SEGMENTS), 2);
    }

    private static void noNegativeSlope() {
        // Position 1 would be content with -1/1, position 2 with 0/9992.
        dueSegment(merged(7, 8), 0, 0, 1, 7, 0, 1);
        dueSegment(merged(7, 8, 9999), 0, 0, 2, 7, 0, 1);
        dueSegment(merged(7), 0, 0, 0, 7, 0, 1);
    }

    private static void segmentsAreTheLongest() {
        LearnedIndex x = clusters();
        due("segments", x.count(SEGMENTS), 3);
        dueSegment(x, 0, 0, 2, 3, 1, 2);
        dueSegment(x, 1, 3, 5, 13, 1, 2);
        dueSegment(x, 2, 6, 6, 22, 0, 1);
        LearnedIndex y = full();
        y.set(BOUND, 1);
        int next = 0;
        for (int i = 0; i < y.count(SEGMENTS); i++) {
            due("first position of segment " + i, y.segment(i, 0), next);
            next = y.segment(i, 1) + 1;
        }
        due("positions of all segments", next, y.count(POSITIONS));
    }

    private static void theLeastSlope() {
        // 33 asks for 4/32 and 8 for 1/7; 2/1, 5/7 and 8/32 would be too steep.
        dueSegment(powers(), 0, 0, 6, 1, 1, 7);
        // 20 asks for 4/20, and 10 allows no more: the least is the only one.
        LearnedIndex x = merged(0, 10, 12, 14, 16, 20);
        x.set(BOUND, 1);
        dueSegment(x, 0, 0, 5, 0, 1, 5);
    }

    private static void lowestTerms() {
        LearnedIndex x = merged(0, 2, 4, 6);
        x.set(BOUND, 1);
        dueSegment(x, 0, 0, 3, 0, 1, 3);
        LearnedIndex y = merged(0, 1, 2, 3, 4, 8);
        y.set(BOUND, 1);
        dueSegment(y, 0, 0, 5, 0, 3, 4);
        // 1/11 and 2/12 are asked for: 1/6.
        dueSegment(merged(0, 9, 10, 11, 12), 0, 0, 4, 0, 1, 6);
    }

    private static void zeroIsZeroOverOne() {
        LearnedIndex x = merged(5, 100, 9000);
        due("numerator", x.segment(0, 3), 0);
        due("denominator", x.segment(0, 4), 1);
        LearnedIndex y = clusters();
        due("numerator of one key", y.segment(2, 3), 0);
        due("denominator of one key", y.segment(2, 4), 1);
    }

    // ---- Prediction

    private static void theLastSegmentThatBeginsBefore() {
        LearnedIndex x = clusters();
        int[][] want = {{3, 0}, {5, 0}, {12, 0}, {13, 1}, {14, 1}, {21, 1}, {22, 2}, {9999, 2}};
        for (int[] pair : want) {
            due("segmentOf(" + pair[0] + ")", x.segmentOf(pair[0]), pair[1]);
        }
    }

    private static void theFirstSegmentIfNoneBeginsBefore() {
        LearnedIndex x = clusters();
        due("segmentOf(0)", x.segmentOf(0), 0);
        due("segmentOf(2)", x.segmentOf(2), 0);
        duePredictions(x, 2, 0, 0, 2, 1);
    }

    private static void predictionsAreRoundedDown() {
        LearnedIndex x = powers();
        int[][] want = {{1, 0}, {7, 0}, {8, 1}, {14, 1}, {15, 2}, {21, 2}, {22, 3}, {42, 5}, {43, 6}};
        for (int[] pair : want) {
            due("predict(" + pair[0] + ", 0)", x.predict(pair[0], 0), pair[1]);
        }
    }

    private static void predictionsBelowTheFirstPosition() {
        LearnedIndex x = merged(5000, 5001, 5002, 5003, 5004);
        x.set(BOUND, 1);
        // 3/4 is the slope: -3/4 and -3750 come before the first position.
        due("predict(4999, 0)", x.predict(4999, 0), 0);
        due("predict(0, 0)", x.predict(0, 0), 0);
        duePredictions(x, 0, 0, 0, 2, 1);
    }

    private static void predictionsAboveTheLastPosition() {
        LearnedIndex x = powers();
        due("predict(43, 0), which is the last position", x.predict(43, 0), 6);
        due("predict(49, 0), which is the last position", x.predict(49, 0), 6);
        due("predict(50, 0), which is above it", x.predict(50, 0), 6);
        due("predict(9999, 0)", x.predict(9999, 0), 6);
        LearnedIndex y = clusters();
        due("predict(8, 0), 5/2 in the first segment", y.predict(8, 0), 2);
        due("predict(12, 0), 9/2 in the first segment", y.predict(12, 0), 2);
        due("predict(21, 0), 3 + 4 in the second segment", y.predict(21, 0), 5);
    }

    private static void windowsNotBelowTheFirstPosition() {
        LearnedIndex x = powers();
        due("first position for a prediction of 0", x.predict(1, 1), 0);
        due("first position for a prediction of 1", x.predict(8, 1), 0);
        due("first position for a prediction of 2", x.predict(15, 1), 0);
        due("first position for a prediction of 3", x.predict(22, 1), 1);
        LearnedIndex y = clusters();
        due("first position in the second segment", y.predict(13, 1), 3);
        due("one behind it", y.predict(15, 1), 3);
        due("two behind it", y.predict(17, 1), 4);
        due("first position of the third", y.predict(22, 1), 6);
    }

    private static void windowsNotAboveTheLastPosition() {
        LearnedIndex x = powers();
        due("last position for a prediction of 0", x.predict(1, 2), 3);
        due("last position for a prediction of 3", x.predict(22, 2), 6);
        due("last position for a prediction of 4", x.predict(33, 2), 6);
        due("last position for a prediction of 6", x.predict(9999, 2), 6);
        LearnedIndex y = clusters();
        due("last position in the first segment", y.predict(3, 2), 2);
        due("and for its last key", y.predict(5, 2), 2);
        due("and behind it", y.predict(12, 2), 2);
        due("last position in the second segment", y.predict(13, 2), 5);
    }

    // ---- Search

    private static void binarySearchInTheWindow() {
        LearnedIndex x = powers();
        // The windows: 0 to 3 for 1 and 2, 0 to 4 for 8, 0 to 5 for 15 to 17, 2 to 6 for 33.
        int[][] want = {{2, 1}, {1, 2}, {4, 2}, {0, 2}, {3, 2}, {8, 2}, {16, 2}, {15, 3}, {17, 3}, {33, 3}, {34, 3}};
        for (int[] pair : want) {
            due("probes(" + pair[0] + ")", x.probes(pair[0]), pair[1]);
        }
        due("probes of the only key", merged(5).probes(5), 1);
        due("probes of a greater key", merged(5).probes(6), 1);
        due("probes of a lesser key", merged(5).probes(4), 1);
    }

    private static void nothingIsProbedInAnEmptyMainPart() {
        LearnedIndex x = buffered(5);
        due("probes(5)", x.probes(5), 0);
        due("probes(6)", x.probes(6), 0);
        refused("get(6)", ELEMENT, () -> x.get(6));
        dueTallies(x, 1, 0, 0, 1, 0);
    }

    // ---- Pages

    private static void pageSizeFrom1To16() {
        LearnedIndex x = new LearnedIndex();
        due("page size at first", x.set(PAGE_SIZE, 1), 4);
        due("the least", x.set(PAGE_SIZE, 16), 1);
        due("the greatest", x.set(PAGE_SIZE, 4), 16);
        refused("page size 0", ARGUMENT, () -> x.set(PAGE_SIZE, 0));
        refused("page size 17", ARGUMENT, () -> x.set(PAGE_SIZE, 17));
    }

    private static void pagesAreRoundedDown() {
        LearnedIndex x = powers();
        due("pages of 0 to 3", x.predict(1, 3), 1);
        due("pages of 0 to 4", x.predict(8, 3), 2);
        x.set(PAGE_SIZE, 3);
        due("pages of 0 to 3, size 3", x.predict(1, 3), 2);
        due("pages of 0 to 5, size 3", x.predict(16, 3), 2);
        due("pages of 1 to 6, size 3", x.predict(22, 3), 3);
        x.set(PAGE_SIZE, 1);
        due("pages of 1 to 6, size 1", x.predict(22, 3), 6);
        x.set(PAGE_SIZE, 16);
        due("pages of 1 to 6, size 16", x.predict(22, 3), 1);
        LearnedIndex y = full();
        y.merge();
        y.set(PAGE_SIZE, 16);
        // One segment of slope 147/9834, which is 49/3278: key 990, position 15, is predicted at 14.
        due("prediction", y.predict(990, 0), 14);
        due("pages of 12 to 17, size 16", y.predict(990, 3), 2);
    }

    // ---- Lookups

    private static void aChangedKeyIsNotSearchedInTheMainPart() {
        LearnedIndex x = powers();
        x.put(16, 5);
        x.remove(8);
        x.put(9, 1);
        due("get of a new value", x.get(16), 5);
        refused("get of a removed key", ELEMENT, () -> x.get(8));
        due("get of a new key", x.get(9), 1);
        dueTallies(x, 3, 0, 0, 9, 1);
        due("get of a key without a change", x.get(1), 10);
        dueTallies(x, 4, 2, 1, 12, 1);
    }

    private static void eachPageIsCountedOnce() {
        LearnedIndex x = powers();
        // Positions 1 and 0 on one page, twice; then 2 and 4 on two pages; then 2, 4 and 5 on two pages.
        x.get(1);
        due("pages of one lookup", x.count(PAGES), 1);
        x.get(1);
        due("pages of two lookups", x.count(PAGES), 2);
        x.get(16);
        due("pages of three lookups", x.count(PAGES), 4);
        refused("get(17)", ELEMENT, () -> x.get(17));
        dueTallies(x, 4, 9, 6, 0, 1);
        x.set(PAGE_SIZE, 1);
        refused("get(17)", ELEMENT, () -> x.get(17));
        dueTallies(x, 5, 12, 9, 0, 1);
    }

    private static void theDebtOfALookup() {
        LearnedIndex x = powers();
        x.get(1);
        due("debt with an empty buffer", x.count(DEBT), 0);
        x.put(9, 1);
        x.get(1);
        due("debt with one change", x.count(DEBT), 1);
        x.remove(8);
        x.remove(16);
        x.get(9);
        due("debt with three changes more", x.count(DEBT), 4);
        refused("get(8)", ELEMENT, () -> x.get(8));
        due("debt with three changes more", x.count(DEBT), 7);
    }

    private static void factorFrom0To9() {
        LearnedIndex x = new LearnedIndex();
        due("factor at first", x.set(FACTOR, 9), 0);
        due("the greatest", x.set(FACTOR, 0), 9);
        due("the least", x.set(FACTOR, 1), 0);
        refused("factor -1", ARGUMENT, () -> x.set(FACTOR, -1));
        refused("factor 10", ARGUMENT, () -> x.set(FACTOR, 10));
    }

    private static void aFactorOf0MergesNothing() {
        LearnedIndex x = merged(1);
        x.put(2, 2);
        for (int i = 0; i < 400; i++) {
            x.get(2);
        }
        due("debt", x.count(DEBT), 400);
        due("mergings", x.count(MERGINGS), 1);
    }

    private static void mergedWhenTheDebtIsReached() {
        for (int factor = 1; factor <= 9; factor++) {
            LearnedIndex x = merged(1, 2, 3);
            x.set(FACTOR, factor);
            x.put(4, 40);
            x.remove(1);
            x.remove(2);
            x.remove(4);
            x.put(1, 11);
            x.remove(1);
            // Two changes are left, both removals, beside three positions and one entry.
            int lookups = (1 + 3 * factor + 1) / 2;
            for (int i = 1; i < lookups; i++) {
                x.get(3);
            }
            due("debt before with factor " + factor, x.count(DEBT), 2 * (lookups - 1));
            due("mergings before with factor " + factor, x.count(MERGINGS), 1);
            x.get(3);
            due("mergings with factor " + factor, x.count(MERGINGS), 2);
            due("positions with factor " + factor, x.count(POSITIONS), 1);
        }
    }

    private static void mergedAtJustTheDebt() {
        LearnedIndex x = merged(1, 2, 3);
        x.set(FACTOR, 2);
        x.put(4, 40);
        for (int i = 0; i < 6; i++) {
            x.get(4);
        }
        due("debt 6 of 1 + 2 * 3", x.count(DEBT), 6);
        due("changes", x.count(CHANGES), 1);
        due("the lookup that merges", x.get(4), 40);
        due("debt 7", x.count(DEBT), 0);
        due("changes", x.count(CHANGES), 0);
        due("its probes are none", x.count(PROBES), 0);
        LearnedIndex y = buffered(5);
        y.set(FACTOR, 9);
        due("get(5)", y.get(5), 50);
        due("debt 1 beside no positions", y.count(MERGINGS), 1);
    }

    private static void anEmptyBufferIsMergedByItsDebt() {
        LearnedIndex x = buffered(5);
        x.get(5);
        x.get(5);
        x.remove(5);
        due("debt that stays", x.count(DEBT), 2);
        x.set(FACTOR, 2);
        refused("get(5)", ELEMENT, () -> x.get(5));
        dueTallies(x, 3, 0, 0, 0, 1);
        refused("get(5) without a debt", ELEMENT, () -> x.get(5));
        dueTallies(x, 4, 0, 0, 0, 1);
    }

    private static void everyMergingMakesTheDebt0() {
        LearnedIndex byCall = indebted();
        byCall.merge();
        due("debt after merge", byCall.count(DEBT), 0);
        LearnedIndex byPut = indebted();
        byPut.put(5, 5);
        due("debt after put at the capacity", byPut.count(DEBT), 4);
        byPut.put(6, 6);
        due("debt after put above the capacity", byPut.count(DEBT), 0);
        LearnedIndex byRemove = indebted();
        byRemove.remove(1);
        byRemove.remove(2);
        due("debt after remove above the capacity", byRemove.count(DEBT), 0);
        LearnedIndex bySet = indebted();
        bySet.set(CAPACITY, 2);
        due("debt after set at the capacity", bySet.count(DEBT), 4);
        bySet.set(CAPACITY, 1);
        due("debt after set below the changes", bySet.count(DEBT), 0);
        LearnedIndex byLoad = indebted();
        loaded(byLoad, "5=5;6=6");
        due("debt after load above the capacity", byLoad.count(DEBT), 0);
        LearnedIndex byLookup = indebted();
        byLookup.set(FACTOR, 1);
        byLookup.get(1);
        due("debt after a lookup", byLookup.count(DEBT), 0);
        LearnedIndex byNone = indebted();
        byNone.remove(3);
        byNone.remove(4);
        due("debt without merging", byNone.count(DEBT), 4);
    }

    /** Two positions, two changes, a capacity of 3, and a debt of 4. */
    private static LearnedIndex indebted() {
        LearnedIndex x = merged(1, 2);
        x.set(CAPACITY, 3);
        x.put(3, 30);
        x.put(4, 40);
        x.get(1);
        x.get(4);
        due("debt at first", x.count(DEBT), 4);
        return x;
    }

    // ---- Texts

    private static void dueLoad(String text, int want) {
        LearnedIndex x = new LearnedIndex();
        due("load of \"" + text + "\"", loaded(x, text), want);
    }

    private static void braces() {
        dueLoad("1=1", 1);
        dueLoad("1=1;2!", 2);
        dueLoad("1!;2!;3!", 3);
        dueLoad("1!;".repeat(32) + "1!", 33);
        dueLoad("1=1;2!;", -107);
        dueLoad(";1=1", -100);
        dueLoad("1=1,2!", -103);
    }

    private static void brackets() {
        dueLoad("", 0);
        dueLoad("1=-1", 1);
        dueLoad("1=1", 1);
        dueLoad("1=--1", -103);
        dueLoad("-1=1", -100);
        dueLoad("1", -101);
        dueLoad("1=!", -102);
        dueLoad("1!1", -102);
        dueLoad("1=1!", -103);
    }

    private static void numbersOf1To4Digits() {
        dueLoad("1=1", 1);
        dueLoad("12=12", 1);
        dueLoad("123=-123", 1);
        dueLoad("1234=-1234", 1);
        dueLoad("1234!", 1);
        dueLoad("12345=1", -104);
        dueLoad("12345!", -104);
        dueLoad("1=12345", -106);
        dueLoad("1=-12345", -107);
        dueLoad("=1", -100);
        dueLoad("!", -100);
        dueLoad("1=", -102);
        dueLoad("1=-", -103);
    }

    private static void onlyTheDigits0To9() {
        int[] letters = {'/', ':', ' ', '+', '-', '=', '!', ';', 'a', 0, 178, 0x661, 0xff11, 0xffff};
        for (int letter : letters) {
            dueLoad((char) letter + "=1", -100);
            dueLoad("1" + (char) letter, letter == '=' ? -102 : letter == '!' ? 1 : -101);
            dueLoad("1=" + (char) letter + "1", letter == '-' ? 1 : -102);
        }
        dueLoad("0=9;9=0", 2);
    }

    private static void keyAndValueOrRemoval() {
        LearnedIndex x = merged(12, 34);
        due("load", loaded(x, "12=56;34!;78=-9999;9=9999"), 4);
        due("get(12)", x.get(12), 56);
        due("contains(34)", x.contains(34), false);
        due("get(78)", x.get(78), -9999);
        due("get(9)", x.get(9), 9999);
        due("entries", x.count(ENTRIES), 3);
    }

    private static void errorAtTheFirstWrongCharacter() {
        dueLoad("x", -100);
        dueLoad("1x", -101);
        dueLoad("1234x", -104);
        dueLoad("1234=x", -105);
        dueLoad("1234=-x", -106);
        dueLoad("1234=-5678x", -110);
        dueLoad("1!x", -102);
        dueLoad("1!;x", -103);
        dueLoad("1!;;1!", -103);
        dueLoad("1!;".repeat(33) + "x", -199);
        LearnedIndex x = merged(5);
        due("error behind entries", loaded(x, "5!;6=1;7"), -108);
        due("changes", x.count(CHANGES), 0);
    }

    private static void errorAtTheEnd() {
        dueLoad("1", -101);
        dueLoad("1234", -104);
        dueLoad("1=", -102);
        dueLoad("1=-", -103);
        dueLoad("1!;", -103);
        dueLoad("1=1;", -104);
        dueLoad("1!;1=1;23", -109);
        dueLoad("1!;".repeat(33) + "1", -200);
        dueLoad("1=1;".repeat(25), -200);
    }

    // ---- Details

    private static void mergedBehindEachEntry() {
        LearnedIndex x = new LearnedIndex();
        x.set(CAPACITY, 2);
        due("load", loaded(x, "1=1;2=2;3=3;3!;2=5;1!;4=4;4!"), 8);
        // Merged behind 3=3, and behind 1!, the third change of three; then 4 comes and goes.
        due("mergings", x.count(MERGINGS), 2);
        due("positions", x.count(POSITIONS), 1);
        due("its value", x.main(0, true), 5);
        due("changes", x.count(CHANGES), 0);
        LearnedIndex y = new LearnedIndex();
        due("load", loaded(y, "1=1;2=2;3=3;4=4;5=5;6=6;7=7;8=8;9=9;3!"), 10);
        due("a removal behind the merging is a change", y.count(REMOVALS), 1);
        due("positions", y.count(POSITIONS), 9);
    }

    private static void theSameValueIsAChange() {
        LearnedIndex x = merged(1, 2, 3);
        due("put(2, 20)", x.put(2, 20), 0);
        due("changes", x.count(CHANGES), 1);
        due("its value", x.change(0, 2), 20);
        due("put(2, 20)", x.put(2, 20), 0);
        due("changes", x.count(CHANGES), 1);
        x.set(CAPACITY, 1);
        due("put(3, 30)", x.put(3, 30), 0);
        due("mergings", x.count(MERGINGS), 2);
        loaded(x, "1=10");
        due("changes by a text", x.count(CHANGES), 1);
    }

    private static void mergingAnEmptyBufferCounts() {
        LearnedIndex x = new LearnedIndex();
        due("merge of an empty index", x.merge(), 0);
        due("mergings", x.count(MERGINGS), 1);
        x.put(1, 1);
        due("merge", x.merge(), 1);
        due("merge of an empty buffer", x.merge(), 0);
        due("mergings", x.count(MERGINGS), 3);
    }

    private static void settingTheFactorMergesNothing() {
        LearnedIndex x = indebted();
        x.set(FACTOR, 1);
        due("debt above 1 + 2", x.count(DEBT), 4);
        due("mergings", x.count(MERGINGS), 1);
        x.set(FACTOR, 0);
        x.get(1);
        due("debt", x.count(DEBT), 6);
        x.set(FACTOR, 9);
        due("mergings", x.count(MERGINGS), 1);
    }

    private static void withAnEmptyMainPart() {
        LearnedIndex x = buffered(5);
        for (int bound = 1; bound <= 8; bound++) {
            due("fewest(" + bound + ")", x.fewest(bound), 0);
        }
        due("leastBound(0)", x.leastBound(0), 1);
        due("segments", x.count(SEGMENTS), 0);
        x.merge();
        due("fewest of one key", x.fewest(1), 1);
        refused("leastBound(0) of one key", ELEMENT, () -> x.leastBound(0));
    }

    private static void zerosAndMinusZero() {
        LearnedIndex x = new LearnedIndex();
        due("load", loaded(x, "0005=0006;006=-0007;07=-0;8=-0000;0=00"), 5);
        due("get(5)", x.get(5), 6);
        due("get(6)", x.get(6), -7);
        due("get(7)", x.get(7), 0);
        due("get(8)", x.get(8), 0);
        due("get(0)", x.get(0), 0);
        due("load", loaded(x, "0005!;0000!"), 2);
        due("entries", x.count(ENTRIES), 3);
    }

    private static void theInputBufferStays() {
        LearnedIndex x = merged(1);
        feedAll(x, "5=7;6");
        x.save();
        due("feed after save", x.feed('!'), 6);
        x.restore();
        due("feed after restore", x.feed(';'), 7);
        x.clear();
        due("feed after clear", x.feed('8'), 8);
        x.feed('!');
        due("load", x.load(), 3);
        due("get(5)", x.get(5), 7);
        x.feed('1');
        x.restore();
        due("what is saved has no input", x.feed('!'), 2);
        due("load", x.load(), 1);
        x.restore();
        due("an empty input buffer stays empty", x.load(), 0);
    }

    private static void tellWhatItIs() {
        in("What it is");
        says(DescriptionTests::allThatItIs, "A learned page index: sorted keys with values");
        says(DescriptionTests::putsIn512Calls, "An object is used for at most 512 calls after it has been made");
        says(DescriptionTests::lookupsIn512Calls, "An object is used for at most 512 calls after it has been made");
        says(DescriptionTests::mergingsIn512Calls, "An object is used for at most 512 calls after it has been made");
        says(DescriptionTests::textsIn512Calls, "An object is used for at most 512 calls after it has been made");
        says(DescriptionTests::snapshotsIn512Calls, "An object is used for at most 512 calls after it has been made");
        says(DescriptionTests::answersIn512Calls, "An object is used for at most 512 calls after it has been made");
        in("Not promised");
        asksNothing("How the state is held inside the object is free", "it names what is free");
        asksNothing("Use of one object from several threads at once", "no call comes from a second thread");
        asksNothing("Nothing is promised beyond the answers", "it names what is free");
    }

    private static void describe() {
        in("Description");
        says(DescriptionTests::twoFloatingPointNumbers, "All numbers are integers, apart from two methods");
        asksNothing("The class is not thread-safe.", "no call comes from a second thread");
        says(DescriptionTests::refusedKeysChangeNothing, "A method that throws an exception");
        says(DescriptionTests::refusedArgumentsChangeNothing, "A method that throws an exception");
        says(DescriptionTests::refusedStatesChangeNothing, "leaves the state unchanged");
        says(DescriptionTests::anErrorCodeChangesNothing, "or returns an error code leaves the state unchanged");
        says(DescriptionTests::theFirstNamedIsThrown, "If several exceptions apply, the one named first is thrown.");
        in("Entries");
        says(DescriptionTests::keysFrom0To9999, "An entry consists of a key from 0 to 9999");
        says(DescriptionTests::anyIntAsValue, "and a value, any int");
        says(DescriptionTests::oneEntryForEachKey, "at most one entry for each key");
        says(DescriptionTests::atMost150Entries, "and at most 150 entries");
        says(DescriptionTests::positionsFrom0, "whose places are called positions and numbered from 0");
        says(DescriptionTests::changesFrom0, "at most one for each key, numbered from 0");
        says(DescriptionTests::aNewValueOrARemoval, "A change is a new value for its key, or a removal.");
        says(DescriptionTests::contentsOfBothParts, "The index contains the entries of the main part, apart from");
        in("Changes");
        says(DescriptionTests::aKeyOfTheMainPart, "in place of an earlier change of the key");
        says(DescriptionTests::aKeyNotInTheMainPart, "its change is taken out of the buffer");
        in("Merging");
        says(DescriptionTests::whatMergingMakes, "When the buffer is merged");
        says(DescriptionTests::capacityFrom1To20, "a capacity from 1 to 20, at first 8");
        says(DescriptionTests::mergedAboveTheCapacity, "if the number of changes is greater than the capacity");
    }

    private static void describeSegments() {
        in("Segments");
        says(DescriptionTests::boundFrom1To8, "The bound is a number from 1 to 8, at first 2.");
        says(DescriptionTests::byAtMostTheBound, "differs from p by at most the bound");
        says(DescriptionTests::noNegativeSlope, "a number s, 0 or greater");
        says(DescriptionTests::segmentsAreTheLongest, "each of them is the longest run");
        says(DescriptionTests::theLeastSlope, "The slope of a segment is the least such number s.");
        says(DescriptionTests::lowestTerms, "it is in lowest terms");
        says(DescriptionTests::zeroIsZeroOverOne, "0 is 0 / 1");
        in("Prediction");
        says(DescriptionTests::theLastSegmentThatBeginsBefore, "the last one whose first key is not greater");
        says(DescriptionTests::theFirstSegmentIfNoneBeginsBefore, "or the first one if there is none");
        says(DescriptionTests::predictionsAreRoundedDown, "i + s * (k - f), rounded down");
        says(DescriptionTests::predictionsBelowTheFirstPosition, "if it is less than i, it is i");
        says(DescriptionTests::predictionsAboveTheLastPosition, "if it is greater than the last position j");
        says(DescriptionTests::windowsNotBelowTheFirstPosition, "minus the bound, but not below i");
        says(DescriptionTests::windowsNotAboveTheLastPosition, "plus the bound plus 1, but not above j");
        in("Search");
        says(DescriptionTests::binarySearchInTheWindow, "as long as low is not greater than high");
        says(DescriptionTests::nothingIsProbedInAnEmptyMainPart, "If the main part is empty, nothing is probed.");
        in("Pages");
        says(DescriptionTests::pageSizeFrom1To16, "The page size is a number from 1 to 16, at first 4.");
        says(DescriptionTests::pagesAreRoundedDown, "divided by the page size, rounded down");
    }

    private static void describeLookups() {
        in("Lookups");
        says(DescriptionTests::aChangedKeyIsNotSearchedInTheMainPart, "nothing is searched in the main part");
        says(DescriptionTests::eachPageIsCountedOnce, "each page with a probe is counted once");
        says(DescriptionTests::theDebtOfALookup, "the debt increases by the number of changes in the buffer");
        says(DescriptionTests::factorFrom0To9, "The factor is a number from 0 to 9, at first 0.");
        says(DescriptionTests::aFactorOf0MergesNothing, "if the factor is not 0");
        says(DescriptionTests::mergedWhenTheDebtIsReached, "1 plus the factor times the number of positions");
        says(DescriptionTests::mergedAtJustTheDebt, "the debt is at least 1 plus");
        says(DescriptionTests::anEmptyBufferIsMergedByItsDebt,
            "number of positions of the main part, the buffer is merged");
        says(DescriptionTests::everyMergingMakesTheDebt0, "Merging, by whatever reason, makes the debt 0.");
        in("Texts");
        says(DescriptionTests::braces,
            "A text of entries has the form", "text = [ entry {", "braces mean zero or more");
        says(DescriptionTests::brackets, "brackets that something may be missing", "entry = number (");
        says(DescriptionTests::numbersOf1To4Digits, "a number consists of 1 to 4 digits");
        says(DescriptionTests::onlyTheDigits0To9, "a number consists of 1 to 4 digits");
        says(DescriptionTests::keyAndValueOrRemoval, "The first number is a key; behind = stands its new value");
        says(DescriptionTests::errorAtTheFirstWrongCharacter, "the first character that cannot continue such a text");
        says(DescriptionTests::errorAtTheEnd, "or the length of the text if it ends too early");
        in("Details");
        says(DescriptionTests::mergedBehindEachEntry, "the buffer can be merged behind each of them");
        says(DescriptionTests::theSameValueIsAChange, "the value that there is already is a change all the same");
        says(DescriptionTests::mergingAnEmptyBufferCounts, "with an empty buffer counts as a merging");
        says(DescriptionTests::settingTheFactorMergesNothing, "Setting the factor merges nothing by itself.");
        says(DescriptionTests::withAnEmptyMainPart, "With an empty main part, the least number of segments is 0");
        says(DescriptionTests::zerosAndMinusZero, "zeros at their beginning, and can be -0");
        says(DescriptionTests::theInputBufferStays, "stays when something is saved, restored or cleared");
        asksNothing("The constructor and the methods follow", "it announces the promises");
    }

    public static void main(String[] args) throws IOException {
        readDocument();
        tellWhatItIs();
        describe();
        describeSegments();
        describeLookups();
        endSentences(false);
    }
}
