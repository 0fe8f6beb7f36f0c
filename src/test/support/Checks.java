import java.util.NoSuchElementException;

/** What the tests share: how an answer is compared with the due one, and indexes to start from. */
abstract class Checks {
    static final Class<?> ARGUMENT = IllegalArgumentException.class;
    static final Class<?> STATE = IllegalStateException.class;
    static final Class<?> ELEMENT = NoSuchElementException.class;
    static final Class<?> INDEX = IndexOutOfBoundsException.class;
    static final Class<?> ARITHMETIC = ArithmeticException.class;

    static final int ENTRIES = 0;
    static final int POSITIONS = 1;
    static final int CHANGES = 2;
    static final int REMOVALS = 3;
    static final int SEGMENTS = 4;
    static final int LOOKUPS = 5;
    static final int PROBES = 6;
    static final int PAGES = 7;
    static final int DEBT = 8;
    static final int MERGINGS = 9;

    static final int BOUND = 0;
    static final int CAPACITY = 1;
    static final int PAGE_SIZE = 2;
    static final int FACTOR = 3;

    /** The promise or the sentence that is being tested. */
    static String subject = "";
    private static int wrong = 0;

    interface Call {
        Object answer();
    }

    static void fault(String what) {
        wrong++;
        System.out.println(subject + ": " + what);
    }

    static void due(String what, Object got, Object want) {
        if (!got.equals(want)) {
            fault(what + " answered " + got + ", due is " + want);
        }
    }

    /** The answer of a call, or the class of what it throws. */
    static Object outcome(Call call) {
        try {
            return call.answer();
        } catch (RuntimeException e) {
            return e.getClass();
        }
    }

    static void refused(String what, Class<?> exception, Call call) {
        due(what, outcome(call), exception);
    }

    static void run(Runnable test) {
        try {
            test.run();
        } catch (RuntimeException e) {
            fault("the test ended with " + e);
        }
    }

    static void end() {
        System.out.println(wrong == 0 ? "all answers are as due" : wrong + " answers are not as due");
        System.exit(wrong == 0 ? 0 : 1);
    }

    /** The counts of lookups, probes, pages, debt and mergings. */
    static void dueTallies(LearnedIndex x, int... want) {
        for (int i = 0; i < 5; i++) {
            due("count(" + (i + 5) + ")", x.count(i + 5), want[i]);
        }
    }

    static void dueSegment(LearnedIndex x, int segment, int... want) {
        for (int what = 0; what < 5; what++) {
            due("segment(" + segment + ", " + what + ")", x.segment(segment, what), want[what]);
        }
    }

    static void duePredictions(LearnedIndex x, int key, int... want) {
        for (int what = 0; what < 4; what++) {
            due("predict(" + key + ", " + what + ")", x.predict(key, what), want[what]);
        }
    }

    /** The settings as they are, asked by setting and setting back; the capacity is left for last. */
    static void dueSettings(LearnedIndex x, int bound, int capacity, int pageSize, int factor) {
        due("factor", x.set(FACTOR, factor), factor);
        due("page size", x.set(PAGE_SIZE, pageSize), pageSize);
        due("bound", x.set(BOUND, bound), bound);
        due("capacity", x.set(CAPACITY, capacity), capacity);
    }

    /** Keys with ten times themselves as values, in the buffer, which has the greatest capacity. */
    static LearnedIndex buffered(int... keys) {
        LearnedIndex x = new LearnedIndex();
        x.set(CAPACITY, 20);
        for (int key : keys) {
            x.put(key, key * 10);
        }
        return x;
    }

    /** Keys with ten times themselves as values, in the main part, under the first settings. */
    static LearnedIndex merged(int... keys) {
        LearnedIndex x = new LearnedIndex();
        for (int key : keys) {
            x.put(key, key * 10);
        }
        x.merge();
        return x;
    }

    /** One segment of slope 1/7 with the first bound: (3 - 2) / (8 - 1) is the steepest need. */
    static LearnedIndex powers() {
        return merged(1, 2, 4, 8, 16, 32, 33);
    }

    /** With bound 1 three segments, 3 4 5, 13 14 15 and 22, but 3 4 and 5 13 14 15 22 are enough. */
    static LearnedIndex clusters() {
        LearnedIndex x = merged(3, 4, 5, 13, 14, 15, 22);
        x.set(BOUND, 1);
        return x;
    }

    /** The keys 1, 2, 3, 16, 20, 32, 33 from both parts, with 5 changes. */
    static LearnedIndex mixed() {
        LearnedIndex x = powers();
        x.remove(4);
        x.remove(8);
        x.put(3, 5);
        x.put(20, -7);
        x.put(16, Integer.MAX_VALUE);
        return x;
    }

    /** The keys 0, 66, 132 to 9834: as many as there may be, 144 of them in the main part. */
    static LearnedIndex full() {
        LearnedIndex x = new LearnedIndex();
        for (int i = 0; i < 150; i++) {
            x.put(i * 66, i);
        }
        return x;
    }

    /** The keys 0, 1000, 1002, 1003 and so on: with a bound b, 2b + 2 of them make one segment and no more. */
    static LearnedIndex farThenClose(int keys) {
        LearnedIndex x = new LearnedIndex();
        for (int i = 0; i < keys; i++) {
            x.put(i == 0 ? 0 : i == 1 ? 1000 : 1000 + i, i);
        }
        x.merge();
        return x;
    }

    static void feedAll(LearnedIndex x, String text) {
        for (char letter : text.toCharArray()) {
            x.feed(letter);
        }
    }

    static int loaded(LearnedIndex x, String text) {
        feedAll(x, text);
        return x.load();
    }
}
