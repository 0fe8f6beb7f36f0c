import java.io.IOException;

/** Each sentence of the document's promises, with the boundaries that it names. */
public final class BoundaryTests extends Sentences {
    private static final int LEAST = Integer.MIN_VALUE;
    private static final int GREATEST = Integer.MAX_VALUE;
    private static final int[] BAD_KEYS = {-1, 10000, LEAST, GREATEST};

    private interface CallOfKey {
        Object answer(int key);
    }

    /** Every number that is no key is refused, and the least and the greatest key are not. */
    private static void dueKeys(String method, CallOfKey call) {
        for (int key : BAD_KEYS) {
            refused(method + "(" + key + ")", ARGUMENT, () -> call.answer(key));
        }
        for (int key : new int[] {0, 9999}) {
            due(method + "(" + key + ") is refused", ARGUMENT.equals(outcome(() -> call.answer(key))), false);
        }
    }

    // ---- Promise 1: a new object

    private static void anEmptyIndex() {
        LearnedIndex x = new LearnedIndex();
        for (int what = 0; what < 10; what++) {
            due("count(" + what + ")", x.count(what), 0);
        }
        due("contains(0)", x.contains(0), false);
        due("sum of all", x.sum(LEAST, GREATEST), 0L);
        due("rank", x.rank(GREATEST), 0);
        refused("main(0)", INDEX, () -> x.main(0, false));
        refused("change(0)", INDEX, () -> x.change(0, 0));
        refused("segment(0)", INDEX, () -> x.segment(0, 0));
        refused("restore", STATE, x::restore);
        due("load", x.load(), 0);
        dueSettings(x, 2, 8, 4, 0);
    }

    private static void objectsShareNothing() {
        LearnedIndex x = new LearnedIndex();
        LearnedIndex y = new LearnedIndex();
        x.put(5, 5);
        x.merge();
        x.set(BOUND, 5);
        x.feed('1');
        x.save();
        due("entries of the other", y.count(ENTRIES), 0);
        due("bound of the other", y.set(BOUND, 2), 2);
        due("input of the other", y.feed('1'), 1);
        refused("restore of the other", STATE, y::restore);
    }

    // ---- Promise 2: put

    private static void putGivesAValue() {
        LearnedIndex x = merged(5, 7);
        x.put(5, -1);
        x.put(6, 60);
        x.put(6, 61);
        due("value of a key of the main part", x.get(5), -1);
        due("value of a new key", x.get(6), 61);
        due("value of another key", x.get(7), 70);
    }

    private static void putTellsWhetherTheKeyIsNew() {
        LearnedIndex x = new LearnedIndex();
        due("a new key", x.put(5, 1), 1);
        due("a key of the buffer", x.put(5, 1), 0);
        x.merge();
        due("a key of the main part", x.put(5, 2), 0);
        due("a key of both parts", x.put(5, 3), 0);
        x.remove(5);
        due("a key that the buffer removes", x.put(5, 4), 1);
        x.remove(5);
        x.merge();
        due("a key that has been removed", x.put(5, 5), 1);
        x.clear();
        due("a key that has been cleared", x.put(5, 5), 1);
        x.set(CAPACITY, 1);
        due("a new key that is merged at once", x.put(6, 6), 1);
        due("a key of the main part that was", x.put(6, 6), 0);
    }

    private static void putRefusesWhatIsNoKey() {
        LearnedIndex x = new LearnedIndex();
        dueKeys("put", key -> x.put(key, 1));
        due("entries", x.count(ENTRIES), 2);
    }

    private static void putIntoAFullIndex() {
        LearnedIndex x = full();
        refused("a new key", STATE, () -> x.put(1, 1));
        due("a key of the main part", x.put(0, 7), 0);
        due("a key of the buffer", x.put(9834, 7), 0);
        x.remove(66);
        due("entry 150 after a removal", x.put(1, 1), 1);
        refused("the removed key", STATE, () -> x.put(66, 1));
        refused("another new key", STATE, () -> x.put(9999, 1));
        due("entries", x.count(ENTRIES), 150);
        x.remove(1);
        due("the removed key in its old place", x.put(66, 1), 1);
        refused("again a new key", STATE, () -> x.put(1, 1));
    }

    private static void put150Entries() {
        LearnedIndex x = new LearnedIndex();
        x.set(CAPACITY, 20);
        for (int i = 1; i <= 150; i++) {
            due("put of entry " + i, x.put(i, i), 1);
        }
        refused("put of entry 151", STATE, () -> x.put(151, 1));
        due("entries", x.count(ENTRIES), 150);
        x.clear();
        due("put after clear", x.put(151, 1), 1);
    }

    // ---- Promise 3: remove

    private static void removeTakesAKeyAway() {
        LearnedIndex x = merged(1, 2, 3);
        x.put(4, 40);
        x.remove(2);
        x.remove(4);
        due("contains(2)", x.contains(2), false);
        due("contains(4)", x.contains(4), false);
        due("entries", x.count(ENTRIES), 2);
        due("no lookup", x.count(LOOKUPS), 0);
    }

    private static void removeReturnsTheValue() {
        LearnedIndex x = merged(1, 2);
        x.put(2, LEAST);
        x.put(3, -5);
        due("value of the main part", x.remove(1), 10);
        due("new value", x.remove(2), LEAST);
        due("value of a new key", x.remove(3), -5);
    }

    private static void removeRefusesWhatIsNoKey() {
        LearnedIndex x = merged(0, 9999);
        dueKeys("remove", x::remove);
        due("entries", x.count(ENTRIES), 0);
    }

    private static void removeOfWhatIsNotThere() {
        LearnedIndex x = merged(1, 3, 5);
        refused("a key below all", ELEMENT, () -> x.remove(0));
        refused("a key between", ELEMENT, () -> x.remove(2));
        refused("a key above all", ELEMENT, () -> x.remove(6));
        x.remove(3);
        refused("a key that the buffer removes", ELEMENT, () -> x.remove(3));
        x.put(2, 2);
        x.remove(2);
        refused("a key whose change was taken out", ELEMENT, () -> x.remove(2));
        x.merge();
        refused("a key that has been removed", ELEMENT, () -> x.remove(3));
        refused("a key of an empty index", ELEMENT, () -> new LearnedIndex().remove(1));
    }

    // ---- Promise 4: get

    private static void getReturnsTheValue() {
        LearnedIndex x = merged(1, 2);
        x.put(2, -2);
        x.put(3, GREATEST);
        due("value of the main part", x.get(1), 10);
        due("new value", x.get(2), -2);
        due("value of a new key", x.get(3), GREATEST);
        due("lookups", x.count(LOOKUPS), 3);
    }

    private static void aLookupOfWhatIsNotThere() {
        LearnedIndex x = merged(1, 2);
        x.remove(2);
        refused("get of a key that is nowhere", ELEMENT, () -> x.get(3));
        due("lookups", x.count(LOOKUPS), 1);
        refused("get of a removed key", ELEMENT, () -> x.get(2));
        due("lookups", x.count(LOOKUPS), 2);
        LearnedIndex empty = new LearnedIndex();
        refused("get of an empty index", ELEMENT, () -> empty.get(0));
        dueTallies(empty, 1, 0, 0, 0, 0);
    }

    private static void getRefusesWhatIsNoKey() {
        LearnedIndex x = merged(5);
        dueKeys("get", x::get);
        due("lookups of the two keys alone", x.count(LOOKUPS), 2);
    }

    private static void aRefusedGetCountsAndMerges() {
        LearnedIndex x = powers();
        x.put(9, 1);
        refused("get(17)", ELEMENT, () -> x.get(17));
        dueTallies(x, 1, 3, 2, 1, 1);
        x.set(FACTOR, 1);
        for (int i = 0; i < 6; i++) {
            refused("get(17)", ELEMENT, () -> x.get(17));
        }
        dueTallies(x, 7, 21, 14, 7, 1);
        refused("get(17) at a debt of 1 + 7", ELEMENT, () -> x.get(17));
        dueTallies(x, 8, 24, 16, 0, 2);
        due("positions", x.count(POSITIONS), 8);
        x.remove(9);
        x.set(FACTOR, 1);
        for (int i = 0; i < 9; i++) {
            refused("get of the removed key", ELEMENT, () -> x.get(9));
        }
        due("mergings by gets of a removed key", x.count(MERGINGS), 3);
        due("positions", x.count(POSITIONS), 7);
    }

    // ---- Promise 5: contains

    private static void containsTellsWhetherItIsThere() {
        LearnedIndex x = merged(1, 3);
        x.remove(3);
        x.put(5, 5);
        boolean[] want = {false, true, false, false, false, true, false};
        for (int key = 0; key < want.length; key++) {
            due("contains(" + key + ")", x.contains(key), want[key]);
        }
        x.put(3, 0);
        due("contains of a key put again", x.contains(3), true);
        due("contains of an empty index", new LearnedIndex().contains(0), false);
    }

    private static void containsIsNoLookup() {
        LearnedIndex x = merged(1);
        x.put(2, 2);
        x.set(FACTOR, 1);
        for (int i = 0; i < 5; i++) {
            x.contains(1);
            x.contains(2);
            x.contains(3);
        }
        dueTallies(x, 0, 0, 0, 0, 1);
        due("changes", x.count(CHANGES), 1);
    }

    private static void containsRefusesWhatIsNoKey() {
        dueKeys("contains", new LearnedIndex()::contains);
    }

    // ---- Promise 6: count

    private static void theTenCounts() {
        LearnedIndex x = mixed();
        x.merge();
        x.remove(33);
        x.remove(1);
        x.put(40, 1);
        x.get(40);
        // 3 in a window from 0 to 3: positions 1 and 2, on one page.
        x.get(3);
        int[] want = {6, 7, 3, 2, 1, 2, 2, 1, 6, 2};
        for (int what = 0; what < 10; what++) {
            due("count(" + what + ")", x.count(what), want[what]);
        }
    }

    private static void noOtherCounts() {
        LearnedIndex x = merged(1);
        for (int what : new int[] {-1, 10, LEAST, GREATEST}) {
            refused("count(" + what + ")", ARGUMENT, () -> x.count(what));
        }
    }

    // ---- Promise 7: clear

    private static void clearRemovesAll() {
        LearnedIndex x = mixed();
        x.clear();
        for (int key : new int[] {1, 3, 4, 20, 33}) {
            due("contains(" + key + ")", x.contains(key), false);
        }
        due("sum of all", x.sum(LEAST, GREATEST), 0L);
        refused("keyAt(0)", INDEX, () -> x.keyAt(0));
        refused("main(0)", INDEX, () -> x.main(0, false));
        refused("change(0)", INDEX, () -> x.change(0, 0));
        refused("segment(0)", INDEX, () -> x.segment(0, 0));
        refused("segmentOf(1)", STATE, () -> x.segmentOf(1));
        due("probes(16)", x.probes(16), 0);
        LearnedIndex y = full();
        y.clear();
        due("put into the cleared index", y.put(9999, 1), 1);
    }

    private static void clearMakesTheCounts0() {
        LearnedIndex x = mixed();
        x.get(1);
        x.clear();
        for (int what = 0; what < 10; what++) {
            due("count(" + what + ")", x.count(what), 0);
        }
        refused("meanProbes", ARITHMETIC, x::meanProbes);
    }

    private static void clearLeavesTheSettings() {
        LearnedIndex x = mixed();
        x.set(BOUND, 3);
        x.set(CAPACITY, 11);
        x.set(PAGE_SIZE, 7);
        x.set(FACTOR, 5);
        x.clear();
        dueSettings(x, 3, 11, 7, 5);
    }

    private static void clearReturnsTheEntries() {
        LearnedIndex x = mixed();
        due("entries of both parts", x.clear(), 7);
        due("of an empty index", x.clear(), 0);
        LearnedIndex y = merged(1, 2);
        y.remove(1);
        y.remove(2);
        due("of an index whose entries are all removed", y.clear(), 0);
        due("of a full index", full().clear(), 150);
    }

    // ---- Promise 8: keyAt

    private static void keysByTheirRanks() {
        LearnedIndex x = mixed();
        int[] keys = {1, 2, 3, 16, 20, 32, 33};
        for (int rank = 0; rank < keys.length; rank++) {
            due("keyAt(" + rank + ")", x.keyAt(rank), keys[rank]);
            due("rank of that key", x.rank(keys[rank]), rank);
        }
    }

    private static void noSuchRank() {
        LearnedIndex x = mixed();
        for (int rank : new int[] {-1, 7, LEAST, GREATEST}) {
            refused("keyAt(" + rank + ")", INDEX, () -> x.keyAt(rank));
        }
        refused("keyAt(0) of an empty index", INDEX, () -> new LearnedIndex().keyAt(0));
        due("keyAt(149) of a full index", full().keyAt(149), 9834);
        refused("keyAt(150) of a full index", INDEX, () -> full().keyAt(150));
    }

    // ---- Promise 9: rank

    private static void lesserKeys() {
        LearnedIndex x = mixed();
        int[][] want = {{0, 0}, {1, 0}, {2, 1}, {4, 3}, {8, 3}, {16, 3}, {17, 4}, {20, 4}, {33, 6}, {34, 7}};
        for (int[] pair : want) {
            due("rank(" + pair[0] + ")", x.rank(pair[0]), pair[1]);
        }
    }

    private static void ranksOfAnyNumber() {
        LearnedIndex x = merged(0, 9999);
        due("rank of the least int", x.rank(LEAST), 0);
        due("rank(-1)", x.rank(-1), 0);
        due("rank(9999)", x.rank(9999), 1);
        due("rank(10000)", x.rank(10000), 2);
        due("rank of the greatest int", x.rank(GREATEST), 2);
    }

    // ---- Promise 10: neighbor

    private static void theNearestKeyOnASide() {
        LearnedIndex x = mixed();
        due("up from 4", x.neighbor(4, true), 16);
        due("down from 15", x.neighbor(15, false), 3);
        due("up from the least int", x.neighbor(LEAST, true), 1);
        due("down from the greatest int", x.neighbor(GREATEST, false), 33);
        due("up from a removed key", x.neighbor(8, true), 16);
        due("down from a removed key", x.neighbor(8, false), 3);
        LearnedIndex y = merged(1, 2, 3);
        y.remove(3);
        due("down from the removed last key", y.neighbor(3, false), 2);
        y.remove(1);
        due("up from the removed first key", y.neighbor(1, true), 2);
    }

    private static void theNumberItselfIsNearest() {
        LearnedIndex x = mixed();
        for (int key : new int[] {1, 3, 20, 33}) {
            due("up from " + key, x.neighbor(key, true), key);
            due("down from " + key, x.neighbor(key, false), key);
        }
        due("up from one below", x.neighbor(19, true), 20);
        due("down from one above", x.neighbor(21, false), 20);
    }

    private static void noNeighbor() {
        LearnedIndex x = mixed();
        refused("up from above all", ELEMENT, () -> x.neighbor(34, true));
        refused("down from below all", ELEMENT, () -> x.neighbor(0, false));
        refused("up from the greatest int", ELEMENT, () -> x.neighbor(GREATEST, true));
        refused("down from the least int", ELEMENT, () -> x.neighbor(LEAST, false));
        refused("up in an empty index", ELEMENT, () -> new LearnedIndex().neighbor(0, true));
        refused("down in an empty index", ELEMENT, () -> new LearnedIndex().neighbor(0, false));
        LearnedIndex y = merged(5);
        y.remove(5);
        refused("up to a removed key", ELEMENT, () -> y.neighbor(0, true));
        refused("down to a removed key", ELEMENT, () -> y.neighbor(9, false));
    }

    // ---- Promise 11: sum

    private static void sumsOverBothParts() {
        LearnedIndex x = mixed();
        due("sum(0, 15)", x.sum(0, 15), 35L);
        due("sum(17, 32)", x.sum(17, 32), 313L);
        due("sum of the removed", x.sum(4, 15), 0L);
        due("sum of all", x.sum(LEAST, GREATEST), 2147483647L + 10 + 20 + 5 - 7 + 320 + 330);
        due("sum of an empty index", new LearnedIndex().sum(LEAST, GREATEST), 0L);
    }

    private static void theEndsBelongToTheRange() {
        LearnedIndex x = merged(10, 20, 30);
        due("sum(10, 30)", x.sum(10, 30), 600L);
        due("sum(11, 30)", x.sum(11, 30), 500L);
        due("sum(10, 29)", x.sum(10, 29), 300L);
        due("sum(20, 20)", x.sum(20, 20), 200L);
        due("sum(21, 21)", x.sum(21, 21), 0L);
    }

    private static void highBelowLow() {
        LearnedIndex x = merged(10, 20, 30);
        due("sum(20, 19)", x.sum(20, 19), 0L);
        due("sum(30, 10)", x.sum(30, 10), 0L);
        due("sum of the greatest and the least int", x.sum(GREATEST, LEAST), 0L);
    }

    private static void sumsBeyondAnInt() {
        LearnedIndex x = new LearnedIndex();
        x.put(0, GREATEST);
        x.put(9999, GREATEST);
        due("sum of two greatest ints", x.sum(0, 9999), 4294967294L);
        x.put(0, LEAST);
        x.put(9999, LEAST);
        x.put(7, -1);
        due("sum of two least ints and -1", x.sum(0, 9999), -4294967297L);
    }

    // ---- Promise 12: main

    private static void numbersOfTheMainPart() {
        LearnedIndex x = mixed();
        int[] keys = {1, 2, 4, 8, 16, 32, 33};
        for (int p = 0; p < keys.length; p++) {
            due("key at " + p, x.main(p, false), keys[p]);
            due("value at " + p, x.main(p, true), keys[p] * 10);
        }
    }

    private static void noSuchPosition() {
        LearnedIndex x = mixed();
        x.put(50, 1);
        for (int p : new int[] {-1, 7, 8, LEAST, GREATEST}) {
            refused("main(" + p + ", false)", INDEX, () -> x.main(p, false));
            refused("main(" + p + ", true)", INDEX, () -> x.main(p, true));
        }
        refused("main(0) of an empty main part", INDEX, () -> buffered(5).main(0, false));
    }

    // ---- Promise 13: change

    private static void partsOfChanges() {
        LearnedIndex x = mixed();
        int[][] want = {{3, 0, 5}, {4, 1, 0}, {8, 1, 0}, {16, 0, GREATEST}, {20, 0, -7}};
        for (int i = 0; i < want.length; i++) {
            for (int what = 0; what < 3; what++) {
                due("change(" + i + ", " + what + ")", x.change(i, what), want[i][what]);
            }
        }
    }

    private static void aRemovalHasTheValue0() {
        LearnedIndex x = merged(5);
        x.put(5, 7);
        due("new value", x.change(0, 2), 7);
        x.remove(5);
        due("value of the removal in its place", x.change(0, 2), 0);
        due("removal", x.change(0, 1), 1);
        x.put(5, 0);
        due("a new value of 0 is no removal", x.change(0, 1), 0);
    }

    private static void noSuchChange() {
        LearnedIndex x = mixed();
        for (int i : new int[] {-1, 5, LEAST, GREATEST}) {
            refused("change(" + i + ", 0)", INDEX, () -> x.change(i, 0));
            refused("change(" + i + ", 3)", INDEX, () -> x.change(i, 3));
        }
        refused("change(0, 0) of an empty buffer", INDEX, () -> merged(5).change(0, 0));
    }

    private static void noSuchPartOfAChange() {
        LearnedIndex x = mixed();
        for (int what : new int[] {-1, 3, LEAST, GREATEST}) {
            refused("change(0, " + what + ")", ARGUMENT, () -> x.change(0, what));
            refused("change(1, " + what + ")", ARGUMENT, () -> x.change(1, what));
        }
    }

    // ---- Promise 14: merge

    private static void mergeEmptiesTheBuffer() {
        LearnedIndex x = mixed();
        x.merge();
        due("positions", x.count(POSITIONS), 7);
        due("changes", x.count(CHANGES), 0);
        due("mergings", x.count(MERGINGS), 2);
        due("entries", x.count(ENTRIES), 7);
    }

    private static void mergeReturnsTheChanges() {
        LearnedIndex x = mixed();
        due("values and removals", x.merge(), 5);
        due("an empty buffer", x.merge(), 0);
        LearnedIndex y = buffered(1, 2, 3, 4, 5, 6, 7, 8, 9, 10, 11, 12, 13, 14, 15, 16, 17, 18, 19, 20);
        due("a full buffer", y.merge(), 20);
    }

    // ---- Promise 15: set

    private static void setSetsEachOfTheFour() {
        LearnedIndex x = powers();
        x.set(BOUND, 1);
        due("segments of bound 1", x.count(SEGMENTS), 2);
        x.set(PAGE_SIZE, 1);
        due("pages of a window, size 1", x.predict(1, 3), 3);
        x.set(CAPACITY, 1);
        x.put(50, 1);
        x.put(51, 1);
        due("mergings by capacity 1", x.count(MERGINGS), 2);
        x.set(FACTOR, 1);
        x.put(52, 1);
        for (int i = 0; i < 10; i++) {
            x.get(52);
        }
        due("mergings by factor 1", x.count(MERGINGS), 3);
    }

    private static void theBoundBuildsSegmentsWithoutMerging() {
        LearnedIndex x = powers();
        x.put(5, 5);
        x.remove(8);
        x.get(5);
        x.set(BOUND, 1);
        due("segments", x.count(SEGMENTS), 2);
        due("changes", x.count(CHANGES), 2);
        dueTallies(x, 1, 0, 0, 2, 1);
        x.set(BOUND, 8);
        due("segments with bound 8", x.count(SEGMENTS), 1);
        due("slope with bound 8", x.segment(0, 3), 0);
        due("bound of a window with bound 8", x.predict(1, 2), 6);
    }

    private static void theCapacityMergesAboveItself() {
        LearnedIndex x = buffered(1, 2, 3);
        x.set(CAPACITY, 4);
        due("less changes than that", x.count(MERGINGS), 0);
        x.set(CAPACITY, 3);
        due("as many changes as that", x.count(MERGINGS), 0);
        x.set(CAPACITY, 2);
        due("more changes than that", x.count(MERGINGS), 1);
        due("positions", x.count(POSITIONS), 3);
        x.set(CAPACITY, 1);
        due("an empty buffer", x.count(MERGINGS), 1);
    }

    private static void otherSettingsMergeNothing() {
        LearnedIndex x = mixed();
        x.get(16);
        x.set(PAGE_SIZE, 1);
        x.set(FACTOR, 1);
        x.set(BOUND, 1);
        x.set(CAPACITY, 20);
        dueTallies(x, 1, 0, 0, 5, 1);
        due("changes", x.count(CHANGES), 5);
    }

    private static void setReturnsThePreviousValue() {
        LearnedIndex x = new LearnedIndex();
        int[] first = {2, 8, 4, 0};
        for (int what = 0; what < 4; what++) {
            due("set(" + what + ", 5)", x.set(what, 5), first[what]);
            due("set(" + what + ", 6)", x.set(what, 6), 5);
            due("set(" + what + ", 6) again", x.set(what, 6), 6);
        }
        dueSettings(x, 6, 6, 6, 6);
    }

    private static void noOtherSettings() {
        LearnedIndex x = new LearnedIndex();
        for (int what : new int[] {-1, 4, LEAST, GREATEST}) {
            refused("set(" + what + ", 1)", ARGUMENT, () -> x.set(what, 1));
        }
        refused("set(4, 0)", ARGUMENT, () -> x.set(4, 0));
    }

    private static void noOtherValuesOfSettings() {
        LearnedIndex x = new LearnedIndex();
        int[] least = {1, 1, 1, 0};
        int[] greatest = {8, 20, 16, 9};
        for (int i = 0; i < 4; i++) {
            int what = i;
            for (int value : new int[] {least[i] - 1, greatest[i] + 1, LEAST, GREATEST}) {
                refused("set(" + what + ", " + value + ")", ARGUMENT, () -> x.set(what, value));
            }
            x.set(what, least[what]);
            due("the least of " + what, x.set(what, greatest[what]), least[what]);
            due("the greatest of " + what, x.set(what, least[what]), greatest[what]);
        }
    }

    // ---- Promise 16: segment

    private static void numbersOfSegments() {
        LearnedIndex x = clusters();
        dueSegment(x, 0, 0, 2, 3, 1, 2);
        dueSegment(x, 1, 3, 5, 13, 1, 2);
        dueSegment(x, 2, 6, 6, 22, 0, 1);
        x.put(1, 1);
        x.remove(3);
        dueSegment(x, 0, 0, 2, 3, 1, 2);
    }

    private static void noSuchSegment() {
        LearnedIndex x = clusters();
        for (int segment : new int[] {-1, 3, LEAST, GREATEST}) {
            refused("segment(" + segment + ", 0)", INDEX, () -> x.segment(segment, 0));
            refused("segment(" + segment + ", 5)", INDEX, () -> x.segment(segment, 5));
        }
        refused("segment(0, 0) of an empty main part", INDEX, () -> buffered(5).segment(0, 0));
    }

    private static void noSuchNumberOfASegment() {
        LearnedIndex x = clusters();
        for (int what : new int[] {-1, 5, LEAST, GREATEST}) {
            refused("segment(0, " + what + ")", ARGUMENT, () -> x.segment(0, what));
            refused("segment(2, " + what + ")", ARGUMENT, () -> x.segment(2, what));
        }
    }

    // ---- Promise 17: segmentOf

    private static void segmentsOfKeys() {
        LearnedIndex x = clusters();
        int[][] want = {{0, 0}, {2, 0}, {3, 0}, {12, 0}, {13, 1}, {21, 1}, {22, 2}, {9999, 2}};
        for (int[] pair : want) {
            due("segmentOf(" + pair[0] + ")", x.segmentOf(pair[0]), pair[1]);
        }
        x.remove(13);
        due("segmentOf a removed key", x.segmentOf(13), 1);
    }

    private static void segmentOfRefusesWhatIsNoKey() {
        dueKeys("segmentOf", merged(5)::segmentOf);
        dueKeys("segmentOf without a main part", buffered(5)::segmentOf);
    }

    private static void segmentOfWithoutAMainPart() {
        refused("segmentOf of an empty index", STATE, () -> new LearnedIndex().segmentOf(0));
        LearnedIndex x = buffered(5);
        refused("segmentOf with a buffer alone", STATE, () -> x.segmentOf(5));
        x.merge();
        due("segmentOf after merging", x.segmentOf(5), 0);
        x.remove(5);
        due("segmentOf before merging the removal", x.segmentOf(5), 0);
        x.merge();
        refused("segmentOf after merging the removal", STATE, () -> x.segmentOf(5));
    }

    // ---- Promise 18: predict

    private static void numbersOfPredictions() {
        LearnedIndex x = powers();
        duePredictions(x, 0, 0, 0, 3, 1);
        duePredictions(x, 8, 1, 0, 4, 2);
        duePredictions(x, 22, 3, 1, 6, 2);
        duePredictions(x, 33, 4, 2, 6, 2);
        duePredictions(x, 9999, 6, 4, 6, 1);
        duePredictions(merged(5), 5, 0, 0, 0, 1);
        duePredictions(merged(5), 9999, 0, 0, 0, 1);
        x.put(0, 1);
        x.get(33);
        duePredictions(x, 33, 4, 2, 6, 2);
        dueTallies(x, 1, 3, 1, 1, 1);
    }

    private static void predictRefusesWhatIsNoKey() {
        for (int number = 0; number < 4; number++) {
            int what = number;
            dueKeys("predict, " + what, key -> powers().predict(key, what));
            dueKeys("predict without a main part, " + what, key -> buffered(5).predict(key, what));
        }
    }

    private static void noSuchNumberOfAPrediction() {
        for (int what : new int[] {-1, 4, LEAST, GREATEST}) {
            refused("predict(1, " + what + ")", ARGUMENT, () -> powers().predict(1, what));
            refused("predict(5, " + what + ") without a main part", ARGUMENT, () -> buffered(5).predict(5, what));
        }
    }

    private static void predictWithoutAMainPart() {
        for (int number = 0; number < 4; number++) {
            int what = number;
            refused("predict(0, " + what + ") of an empty index", STATE, () -> new LearnedIndex().predict(0, what));
            refused("predict(5, " + what + ") with a buffer alone", STATE, () -> buffered(5).predict(5, what));
        }
    }

    // ---- Promise 19: worst

    private static void theGreatestDifference() {
        // Predictions 0 0 0 1 2 4 4 for positions 0 to 6, and 0 0 1 3 3 4 6 for the clusters.
        due("worst of the powers", powers().worst(), 2);
        due("worst of the clusters", clusters().worst(), 1);
        LearnedIndex x = merged(0, 1, 2, 3, 4, 5, 6, 7, 8);
        x.set(BOUND, 8);
        due("worst of a slope of 0", x.worst(), 8);
        due("worst of one key", merged(5).worst(), 0);
        // Two segments: 0 0 1 2 for positions 0 to 3, which need a slope of 2/3, and 4 for 4.
        LearnedIndex y = merged(0, 1, 2, 3, 20);
        y.set(BOUND, 1);
        due("segments", y.count(SEGMENTS), 2);
        due("worst of two segments", y.worst(), 1);
        // The bound is the worst that can be, as soon as a slope is needed.
        for (int bound = 1; bound <= 8; bound++) {
            LearnedIndex z = farThenClose(2 * bound + 2);
            z.set(BOUND, bound);
            due("worst with bound " + bound, z.worst(), bound);
        }
    }

    private static void theWorstOfNothing() {
        due("worst of an empty index", new LearnedIndex().worst(), 0);
        due("worst with a buffer alone", buffered(5, 6).worst(), 0);
    }

    // ---- Promise 20: fewest

    private static void fewerRunsThanSegments() {
        LearnedIndex x = clusters();
        due("segments", x.count(SEGMENTS), 3);
        due("fewest(1)", x.fewest(1), 2);
        due("fewest(2)", x.fewest(2), 1);
        due("fewest of one key", merged(5).fewest(1), 1);
        due("fewest of as many as one run can have", farThenClose(4).fewest(1), 1);
        due("fewest of one key more", farThenClose(5).fewest(1), 2);
    }

    private static void fewestWithBoundsFrom1To8() {
        LearnedIndex x = farThenClose(18);
        for (int bound = 1; bound <= 7; bound++) {
            due("fewest(" + bound + ")", x.fewest(bound), 2);
        }
        due("fewest(8)", x.fewest(8), 1);
        due("the bound that is set stays", x.set(BOUND, 2), 2);
    }

    private static void fewestRefusesOtherBounds() {
        for (int bound : new int[] {0, 9, -1, LEAST, GREATEST}) {
            refused("fewest(" + bound + ")", ARGUMENT, () -> powers().fewest(bound));
            refused("fewest(" + bound + ") without a main part", ARGUMENT, () -> buffered(5).fewest(bound));
        }
    }

    // ---- Promise 21: leastBound

    private static void theLeastBoundForSegments() {
        LearnedIndex x = clusters();
        x.set(BOUND, 8);
        due("leastBound(3)", x.leastBound(3), 1);
        due("leastBound(2)", x.leastBound(2), 2);
        due("leastBound(1)", x.leastBound(1), 2);
        due("leastBound of the greatest int", x.leastBound(GREATEST), 1);
        due("the bound that is set stays", x.set(BOUND, 8), 8);
        due("and its segments", x.count(SEGMENTS), 1);
        for (int bound = 1; bound <= 8; bound++) {
            due("leastBound(1) of a run of bound " + bound, farThenClose(2 * bound + 2).leastBound(1), bound);
        }
        due("leastBound(0) of an empty main part", buffered(5).leastBound(0), 1);
    }

    private static void leastBoundOfANegativeNumber() {
        refused("leastBound(-1)", ARGUMENT, () -> powers().leastBound(-1));
        refused("leastBound of the least int", ARGUMENT, () -> powers().leastBound(LEAST));
        refused("leastBound(-1) of an empty main part", ARGUMENT, () -> buffered(5).leastBound(-1));
        due("leastBound(0), which is not negative", buffered(5).leastBound(0), 1);
        refused("leastBound(0) of one key", ELEMENT, () -> merged(5).leastBound(0));
    }

    private static void noSuchBound() {
        refused("leastBound(0)", ELEMENT, () -> merged(5).leastBound(0));
        refused("leastBound(1) of a run that asks for 9", ELEMENT, () -> farThenClose(19).leastBound(1));
        due("leastBound(1) of a run that asks for 8", farThenClose(18).leastBound(1), 8);
    }

    // ---- Promise 22: probes

    private static void probesAsIfTheBufferWereEmpty() {
        LearnedIndex x = powers();
        due("probes(16)", x.probes(16), 2);
        due("probes(17)", x.probes(17), 3);
        x.put(16, 1);
        x.put(17, 1);
        x.remove(8);
        due("probes(16) with a new value", x.probes(16), 2);
        due("probes(17) with a value", x.probes(17), 3);
        due("probes(8) with a removal", x.probes(8), 2);
        due("probes without a main part", buffered(5).probes(5), 0);
    }

    private static void probesCountNothing() {
        LearnedIndex x = powers();
        x.put(9, 1);
        x.set(FACTOR, 1);
        for (int i = 0; i < 20; i++) {
            x.probes(16);
        }
        dueTallies(x, 0, 0, 0, 0, 1);
        due("changes", x.count(CHANGES), 1);
        refused("meanProbes", ARITHMETIC, x::meanProbes);
    }

    private static void probesRefusesWhatIsNoKey() {
        dueKeys("probes", powers()::probes);
        dueKeys("probes without a main part", buffered(5)::probes);
    }

    // ---- Promise 23: meanWindow

    private static void theMeanOfTheWindows() {
        // Windows 0-3, 0-3, 0-3, 0-4, 0-5, 2-6 and 2-6.
        due("meanWindow of the powers", powers().meanWindow(), 33.0 / 7.0);
        // Windows 0-2 and 3-5 thrice each, and 6-6.
        due("meanWindow of the clusters", clusters().meanWindow(), 19.0 / 7.0);
        due("meanWindow of one key", merged(5).meanWindow(), 1.0);
        LearnedIndex x = powers();
        x.remove(1);
        x.put(9, 9);
        due("meanWindow with changes", x.meanWindow(), 33.0 / 7.0);
    }

    private static void noWindows() {
        refused("meanWindow of an empty index", ARITHMETIC, () -> new LearnedIndex().meanWindow());
        refused("meanWindow with a buffer alone", ARITHMETIC, () -> buffered(5).meanWindow());
    }

    // ---- Promise 24: meanProbes

    private static void theMeanOfTheProbes() {
        LearnedIndex x = powers();
        x.get(16);
        due("meanProbes after one lookup", x.meanProbes(), 2.0f);
        x.get(16);
        refused("get(17)", ELEMENT, () -> x.get(17));
        due("meanProbes after three lookups", x.meanProbes(), 7.0f / 3.0f);
        x.put(16, 1);
        x.get(16);
        due("meanProbes after one in the buffer", x.meanProbes(), 1.75f);
        x.merge();
        due("meanProbes after merging", x.meanProbes(), 1.75f);
    }

    private static void noLookups() {
        LearnedIndex x = powers();
        x.contains(1);
        x.probes(1);
        refused("meanProbes", ARITHMETIC, x::meanProbes);
        x.get(1);
        x.clear();
        refused("meanProbes after clear", ARITHMETIC, x::meanProbes);
        LearnedIndex y = buffered(5);
        y.get(5);
        due("meanProbes of a lookup without probes", y.meanProbes(), 0.0f);
    }

    // ---- Promise 25: feed

    private static void feedAppends() {
        LearnedIndex x = new LearnedIndex();
        feedAll(x, "12=3");
        due("load", x.load(), 1);
        due("get(12)", x.get(12), 3);
    }

    private static void anyCharacter() {
        int[] letters = {0, 10, 32, 127, 128, 255, 256, 0x661, 0xd800, 0xffff};
        LearnedIndex x = new LearnedIndex();
        for (int i = 0; i < letters.length; i++) {
            due("feed of " + letters[i], x.feed((char) letters[i]), i + 1);
        }
        due("load", x.load(), -100);
        // 256 + '1' must not be taken for '1'.
        feedAll(x, "1=1" + (char) (256 + '1'));
        due("load", x.load(), -103);
    }

    private static void feedRefuses101Characters() {
        LearnedIndex x = new LearnedIndex();
        for (int i = 1; i <= 100; i++) {
            due("feed " + i, x.feed(i == 100 ? 'x' : '1'), i);
        }
        refused("feed 101", STATE, () -> x.feed('1'));
        refused("feed 102", STATE, () -> x.feed('1'));
        due("load", x.load(), -104);
        due("feed after load", x.feed('1'), 1);
        LearnedIndex y = new LearnedIndex();
        feedAll(y, "1!;".repeat(33) + "1");
        refused("feed 101", STATE, () -> y.feed('!'));
        due("load of the 100 letters", y.load(), -200);
    }

    // ---- Promise 26: load

    private static void loadAppliesTheEntries() {
        LearnedIndex x = powers();
        due("load", loaded(x, "8=-7;16!;3=5;3=6;0=0"), 5);
        due("get(8)", x.get(8), -7);
        due("contains(16)", x.contains(16), false);
        due("get(3), which has its second value", x.get(3), 6);
        due("get(0)", x.get(0), 0);
        due("changes", x.count(CHANGES), 4);
        due("removals", x.count(REMOVALS), 1);
        due("load of a text that undoes itself", loaded(x, "7=1;7!"), 2);
        due("changes", x.count(CHANGES), 4);
    }

    private static void loadDoesNotRemoveWhatIsNotThere() {
        LearnedIndex x = merged(1, 2);
        due("load", loaded(x, "3!;1!;1!;0!;9999!"), 5);
        due("changes", x.count(CHANGES), 1);
        due("entries", x.count(ENTRIES), 1);
        due("load into an empty index", loaded(new LearnedIndex(), "1!;2!"), 2);
    }

    private static void theInputBufferIsEmptyAfterwards() {
        LearnedIndex x = full();
        due("load", loaded(x, "0=1"), 1);
        due("feed", x.feed('1'), 1);
        due("load after an error", x.load(), -101);
        due("feed", x.feed('1'), 1);
        feedAll(x, "=1");
        refused("load with too many entries", STATE, x::load);
        due("feed", x.feed('0'), 1);
        due("load", loaded(x, "!"), 1);
        due("load of nothing", x.load(), 0);
    }

    private static void nothingIsAppliedIfThereAreTooMany() {
        LearnedIndex x = full();
        x.get(0);
        refused("load", STATE, () -> loaded(x, "66!;0=-1;1=1;2=1"));
        due("contains(66)", x.contains(66), true);
        due("get(0)", x.get(0), 0);
        due("contains(1)", x.contains(1), false);
        due("changes", x.count(CHANGES), 6);
        due("mergings", x.count(MERGINGS), 16);
    }

    private static void loadReturnsTheNumberOfEntries() {
        due("load of an empty text", new LearnedIndex().load(), 0);
        due("load of one entry", loaded(new LearnedIndex(), "1=1"), 1);
        due("load of three entries of a key", loaded(new LearnedIndex(), "1=1;1!;1!"), 3);
        due("load of 33 entries", loaded(new LearnedIndex(), "1!;".repeat(32) + "2=-1"), 33);
        due("load of 25 entries", loaded(new LearnedIndex(), "1=1;".repeat(24) + "2=1"), 25);
    }

    private static void loadReturnsTheErrorPosition() {
        due("an error at 0", loaded(new LearnedIndex(), "="), -100);
        due("an error at 1", loaded(new LearnedIndex(), "1"), -101);
        due("an error at 99", loaded(new LearnedIndex(), "1!;".repeat(33) + "="), -199);
        due("an error at 100", loaded(new LearnedIndex(), "1!;".repeat(33) + "1"), -200);
        LearnedIndex x = full();
        due("an error in a text with too many entries", loaded(x, "1=1;2=2;"), -108);
    }

    private static void moreThan150AfterAnEntry() {
        LearnedIndex x = full();
        refused("one more", STATE, () -> loaded(x, "1=1"));
        refused("one more for a while", STATE, () -> loaded(x, "1=1;1!"));
        refused("one more before a removal", STATE, () -> loaded(x, "1=1;0!"));
        refused("a removal of none", STATE, () -> loaded(x, "1!;1=1"));
        refused("a removal twice", STATE, () -> loaded(x, "0!;0!;1=1;2=2"));
        refused("a removed key again", STATE, () -> loaded(x, "0!;1=1;0=0"));
        refused("removed, put, and one more", STATE, () -> loaded(x, "0!;0=0;1=1"));
        refused("removed behind a value and removed again", STATE, () -> loaded(x, "0=1;0!;0!;1=1;2=2"));
        due("removed, put and removed, and one more", loaded(x, "66!;66=1;66!;1=1"), 4);
        due("and back", loaded(x, "1!;66=1"), 2);
        due("removed, and put twice", loaded(x, "0!;0=1;0=2"), 3);
        due("keys that are there", loaded(x, "0=1;9834=1;0=2"), 3);
        due("one removed and one more", loaded(x, "66!;1=1"), 2);
        due("entries", x.count(ENTRIES), 150);
        due("the new key twice", loaded(x, "1=2;1=3"), 2);
        x.remove(1);
        due("up to 150", loaded(x, "2=1"), 1);
        refused("the key that the buffer removes", STATE, () -> loaded(x, "66=1"));
        due("entries", x.count(ENTRIES), 150);
    }

    // ---- Promise 27: save

    private static void savedIsAll() {
        LearnedIndex x = mixed();
        x.set(BOUND, 1);
        x.set(PAGE_SIZE, 3);
        x.set(CAPACITY, 9);
        x.set(FACTOR, 4);
        x.get(16);
        x.get(1);
        x.save();
        String saved = Picture.of(x);
        LearnedIndex y = mixed();
        y.set(BOUND, 1);
        y.set(PAGE_SIZE, 3);
        y.set(CAPACITY, 9);
        y.set(FACTOR, 4);
        y.get(16);
        y.get(1);
        y.save();
        y.put(4, 1);
        y.merge();
        y.get(4);
        y.set(BOUND, 8);
        y.set(PAGE_SIZE, 16);
        y.set(CAPACITY, 1);
        y.set(FACTOR, 0);
        y.remove(1);
        y.restore();
        due("the picture of what was restored", Picture.of(y), saved);
    }

    private static void savedInPlaceOfBefore() {
        LearnedIndex x = merged(1, 2);
        x.save();
        x.put(3, 3);
        x.set(BOUND, 5);
        x.save();
        x.clear();
        due("restore", x.restore(), 3);
        due("bound", x.set(BOUND, 5), 5);
        x.clear();
        x.save();
        x.put(1, 1);
        due("restore of an empty index", x.restore(), 0);
        due("contains(1)", x.contains(1), false);
    }

    private static void saveReturnsTheEntries() {
        due("save of both parts", mixed().save(), 7);
        due("save of an empty index", new LearnedIndex().save(), 0);
        due("save of a full index", full().save(), 150);
        LearnedIndex x = merged(5);
        x.remove(5);
        due("save of an index whose entries are all removed", x.save(), 0);
    }

    // ---- Promise 28: restore

    private static void whatWasSavedStaysSaved() {
        LearnedIndex x = mixed();
        x.save();
        for (int time = 0; time < 3; time++) {
            x.put(50 + time, 1);
            x.put(1, -1);
            x.merge();
            x.get(1);
            due("restore", x.restore(), 7);
            due("get(1)", x.sum(1, 1), 10L);
            due("changes", x.count(CHANGES), 5);
            dueTallies(x, 0, 0, 0, 0, 1);
        }
        x.clear();
        due("restore after clear", x.restore(), 7);
    }

    private static void restoreBuildsTheSegments() {
        LearnedIndex x = clusters();
        x.save();
        x.set(BOUND, 8);
        x.clear();
        x.restore();
        due("segments", x.count(SEGMENTS), 3);
        dueSegment(x, 2, 6, 6, 22, 0, 1);
        LearnedIndex empty = new LearnedIndex();
        empty.save();
        empty.put(1, 1);
        empty.merge();
        empty.restore();
        due("segments of an empty index", empty.count(SEGMENTS), 0);
    }

    private static void restoreReturnsTheEntries() {
        LearnedIndex x = mixed();
        x.save();
        x.clear();
        due("restore of both parts", x.restore(), 7);
        LearnedIndex y = full();
        y.save();
        y.clear();
        due("restore of a full index", y.restore(), 150);
        refused("put of entry 151", STATE, () -> y.put(1, 1));
    }

    private static void nothingWasSaved() {
        LearnedIndex x = merged(5);
        refused("restore", STATE, x::restore);
        x.clear();
        refused("restore after clear", STATE, x::restore);
        x.save();
        due("restore after save", x.restore(), 0);
    }

    private static void entries() {
        in("Promise 1");
        says(BoundaryTests::anEmptyIndex, "Creates an empty index.");
        says(BoundaryTests::objectsShareNothing, "Creates an empty index.");
        in("Promise 2");
        says(BoundaryTests::putGivesAValue, "Gives a key a value.", "`key`: the key", "`value`: the value");
        says(BoundaryTests::putTellsWhetherTheKeyIsNew, "Returns 1 if the index did not contain the key, 0 if it did.");
        says(BoundaryTests::putRefusesWhatIsNoKey, "Throws `IllegalArgumentException` if there is no such key");
        says(BoundaryTests::putIntoAFullIndex, "Throws `IllegalStateException` if the index does not contain the key");
        says(BoundaryTests::put150Entries, "and has 150 entries");
        in("Promise 3");
        says(BoundaryTests::removeTakesAKeyAway, "Removes a key.", "`key`: the key");
        says(BoundaryTests::removeReturnsTheValue, "Returns its value.");
        says(BoundaryTests::removeRefusesWhatIsNoKey, "Throws `IllegalArgumentException` if there is no such key");
        says(BoundaryTests::removeOfWhatIsNotThere, "Throws `NoSuchElementException` if the index does not contain it");
        in("Promise 4");
        says(BoundaryTests::getReturnsTheValue, "Looks a key up.", "`key`: the key", "Returns its value.");
        says(BoundaryTests::aLookupOfWhatIsNotThere, "This is a lookup also if the index does not contain the key.");
        says(BoundaryTests::getRefusesWhatIsNoKey, "Throws `IllegalArgumentException` if there is no such key");
        says(BoundaryTests::aRefusedGetCountsAndMerges, "in which case the counts change nevertheless");
        in("Promise 5");
        says(BoundaryTests::containsTellsWhetherItIsThere, "Returns whether the index contains a key.",
            "`key`: the key", "Returns whether it does.");
        says(BoundaryTests::containsIsNoLookup, "This is no lookup.");
        says(BoundaryTests::containsRefusesWhatIsNoKey, "Throws `IllegalArgumentException` if there is no such key");
        in("Promise 6");
        says(BoundaryTests::theTenCounts, "Returns a count.", "`what`: 0 the entries; 1", "Returns the count.");
        says(BoundaryTests::noOtherCounts, "Throws `IllegalArgumentException` if what is out of range");
        in("Promise 7");
        says(BoundaryTests::clearRemovesAll, "Removes all entries.");
        says(BoundaryTests::clearMakesTheCounts0, "All counts become 0");
        says(BoundaryTests::clearLeavesTheSettings, "the settings stay");
        says(BoundaryTests::clearReturnsTheEntries, "Returns the number of entries that there were.");
    }

    private static void order() {
        in("Promise 8");
        says(BoundaryTests::keysByTheirRanks, "Returns a key by its rank.", "`rank`: the number of lesser keys",
            "Returns the key.");
        says(BoundaryTests::noSuchRank, "Throws `IndexOutOfBoundsException` if there is no such key");
        in("Promise 9");
        says(BoundaryTests::lesserKeys, "that are less than a number", "Returns the number of keys.");
        says(BoundaryTests::ranksOfAnyNumber, "`number`: the number");
        in("Promise 10");
        says(BoundaryTests::theNearestKeyOnASide,
            "Returns the key of the index that is nearest to a number on one side.",
            "`number`: the number", "Returns the key.");
        says(BoundaryTests::theNumberItselfIsNearest,
            "not less than the number, false for the greatest key that is not");
        says(BoundaryTests::noNeighbor, "Throws `NoSuchElementException` if there is no such key");
        in("Promise 11");
        says(BoundaryTests::sumsOverBothParts, "Returns the sum of the values of all keys in a range.");
        says(BoundaryTests::theEndsBelongToTheRange, "`low`: the lowest key", "`high`: the highest key");
        says(BoundaryTests::highBelowLow, "0 if high is less than low");
        says(BoundaryTests::sumsBeyondAnInt, "Returns the sum");
    }

    private static void bothParts() {
        in("Promise 12");
        says(BoundaryTests::numbersOfTheMainPart, "whether it has a change or not", "`position`: the position",
            "`isValue`: true for the value, false for the key", "Returns the number.");
        says(BoundaryTests::noSuchPosition, "Throws `IndexOutOfBoundsException` if there is no such position");
        in("Promise 13");
        says(BoundaryTests::partsOfChanges, "Returns a part of a change.", "`i`: the number of the change",
            "Returns the part.");
        says(BoundaryTests::aRemovalHasTheValue0, "2 the new value, 0 for a removal");
        says(BoundaryTests::noSuchChange, "Throws `IndexOutOfBoundsException` if there is no such change");
        says(BoundaryTests::noSuchPartOfAChange, "Throws `IllegalArgumentException` if what is out of range");
        in("Promise 14");
        says(BoundaryTests::mergeEmptiesTheBuffer, "Merges the buffer.");
        says(BoundaryTests::mergeReturnsTheChanges, "Returns the number of changes that were in it.");
        in("Promise 15");
        says(BoundaryTests::setSetsEachOfTheFour,
            "Sets a setting.", "`what`: 0 the bound, 1", "`value`: the new value");
        says(BoundaryTests::theBoundBuildsSegmentsWithoutMerging, "Setting the bound builds the segments anew");
        says(BoundaryTests::theCapacityMergesAboveItself, "merges the buffer if it has more changes than that");
        says(BoundaryTests::otherSettingsMergeNothing, "without merging");
        says(BoundaryTests::setReturnsThePreviousValue, "Returns the previous value.");
        says(BoundaryTests::noOtherSettings, "if what or the value is out of range");
        says(BoundaryTests::noOtherValuesOfSettings, "or the value is out of range");
    }

    private static void segments() {
        in("Promise 16");
        says(BoundaryTests::numbersOfSegments, "Returns a number about a segment.", "`segment`: the segment, from 0",
            "`what`: 0 its first position; 1", "Returns the number.");
        says(BoundaryTests::noSuchSegment, "Throws `IndexOutOfBoundsException` if there is no such segment");
        says(BoundaryTests::noSuchNumberOfASegment, "Throws `IllegalArgumentException` if what is out of range");
        in("Promise 17");
        says(BoundaryTests::segmentsOfKeys, "Returns the segment of a key.", "`key`: the key", "Returns the segment.");
        says(BoundaryTests::segmentOfRefusesWhatIsNoKey, "Throws `IllegalArgumentException` if there is no such key");
        says(BoundaryTests::segmentOfWithoutAMainPart, "Throws `IllegalStateException` if the main part is empty");
        in("Promise 18");
        says(BoundaryTests::numbersOfPredictions, "Returns a number about the prediction for a key.", "`key`: the key",
            "`what`: 0 the prediction; 1", "Returns the number.");
        says(BoundaryTests::predictRefusesWhatIsNoKey, "Throws `IllegalArgumentException` if there is no such key");
        says(BoundaryTests::noSuchNumberOfAPrediction, "or what is out of range");
        says(BoundaryTests::predictWithoutAMainPart, "Throws `IllegalStateException` if the main part is empty");
        in("Promise 19");
        says(BoundaryTests::theGreatestDifference, "Returns the greatest difference between the prediction");
        says(BoundaryTests::theWorstOfNothing, "0 for an empty main part");
        in("Promise 20");
        says(BoundaryTests::fewerRunsThanSegments, "Returns the least number of runs", "Returns the number of runs.");
        says(BoundaryTests::fewestWithBoundsFrom1To8, "`bound`: the bound that is used, 1 to 8");
        says(BoundaryTests::fewestRefusesOtherBounds, "Throws `IllegalArgumentException` if the bound is out of range");
        in("Promise 21");
        says(BoundaryTests::theLeastBoundForSegments, "the least bound with which the main part has at most a number",
            "`segments`: the number of segments", "Returns the bound.");
        says(BoundaryTests::leastBoundOfANegativeNumber, "Throws `IllegalArgumentException` if the number is negative");
        says(BoundaryTests::noSuchBound, "Throws `NoSuchElementException` if there is no such bound from 1 to 8");
        in("Promise 22");
        says(BoundaryTests::probesAsIfTheBufferWereEmpty, "as if the buffer were empty", "`key`: the key",
            "Returns the number of probes.");
        says(BoundaryTests::probesCountNothing, "Nothing is counted.");
        says(BoundaryTests::probesRefusesWhatIsNoKey, "Throws `IllegalArgumentException` if there is no such key");
        in("Promise 23");
        says(BoundaryTests::theMeanOfTheWindows, "Returns the mean number of positions", "Returns the mean.");
        says(BoundaryTests::noWindows, "Throws `ArithmeticException` if the main part is empty");
        in("Promise 24");
        says(BoundaryTests::theMeanOfTheProbes, "Returns the mean number of probes", "Returns the mean.");
        says(BoundaryTests::noLookups, "Throws `ArithmeticException` if there were no lookups");
    }

    private static void texts() {
        in("Promise 25");
        says(BoundaryTests::feedAppends, "Appends a character to the input buffer.");
        says(BoundaryTests::anyCharacter, "`letter`: any character", "Returns the number of characters");
        says(BoundaryTests::feedRefuses101Characters, "if it already holds 100 characters");
        in("Promise 26");
        says(BoundaryTests::loadAppliesTheEntries, "applies them one after the other, as put and remove do");
        says(BoundaryTests::loadDoesNotRemoveWhatIsNotThere, "keys that the index does not contain are not removed");
        says(BoundaryTests::theInputBufferIsEmptyAfterwards, "The input buffer is empty afterwards, also after");
        says(BoundaryTests::nothingIsAppliedIfThereAreTooMany,
            "If there would be too many entries, nothing is applied.");
        says(BoundaryTests::loadReturnsTheNumberOfEntries, "Returns the number of entries of the text");
        says(BoundaryTests::loadReturnsTheErrorPosition, "-100 minus the error position after a syntax error");
        says(BoundaryTests::moreThan150AfterAnEntry, "more than 150 entries after one of the entries of the text");
        in("Promise 27");
        says(BoundaryTests::savedIsAll, "Saves the entries of both parts, the settings and the counts");
        says(BoundaryTests::savedInPlaceOfBefore, "in place of what was saved before");
        says(BoundaryTests::saveReturnsTheEntries, "Returns the number of entries.");
        in("Promise 28");
        says(BoundaryTests::whatWasSavedStaysSaved, "which stays saved");
        says(BoundaryTests::restoreBuildsTheSegments, "Restores what was saved");
        says(BoundaryTests::restoreReturnsTheEntries, "Returns the number of entries.");
        says(BoundaryTests::nothingWasSaved, "Throws `IllegalStateException` if nothing was saved");
    }

    public static void main(String[] args) throws IOException {
        readDocument();
        entries();
        order();
        bothParts();
        segments();
        texts();
        endSentences(true);
    }
}
