import java.util.NoSuchElementException;

/**
 * A learned page index: sorted keys with values, a buffer of changes, and segments of straight
 * lines that predict the positions of keys. The document's numbered promises say what it does.
 */
public final class LearnedIndex {
    private static final int GREATEST_KEY = 9999;
    private static final int MOST_ENTRIES = 150;
    private static final int MOST_LETTERS = 100;
    private static final int MOST_DIGITS = 4;
    private static final int SYNTAX_ERROR = -100;

    // Room for all entries, and far more than a buffer needs, which has at most 21 changes.
    private static final int ROOM = 160;
    // A window has at most 18 positions, so that five probes are the most that a search needs.
    private static final int MOST_PROBES = 32;
    // Numbers below 10000 need fewer than 20 steps to their greatest common divisor.
    private static final int MOST_DIVISIONS = 64;

    private static final int BOUND = 0;
    private static final int CAPACITY = 1;
    private static final int PAGE_SIZE = 2;
    private static final int FACTOR = 3;
    private static final int SETTINGS = 4;
    private static final int[] FIRST_SETTINGS = {2, 8, 4, 0};
    private static final int[] LEAST_SETTINGS = {1, 1, 1, 0};
    private static final int[] GREATEST_SETTINGS = {8, 20, 16, 9};

    private static final int LOOKUPS = 0;
    private static final int PROBES = 1;
    private static final int PAGES = 2;
    private static final int DEBT = 3;
    private static final int MERGINGS = 4;
    private static final int TALLIES = 5;

    private final State now;
    private final State saved;
    private boolean isSaved;
    private final Entries contents;
    private final Segments segments;
    private final Segments trial;
    private final Run run;
    private final int[] fewestRuns;
    private final Search search;
    private final Input input;

    public LearnedIndex() {
        now = new State();
        saved = new State();
        isSaved = false;
        contents = new Entries();
        segments = new Segments();
        trial = new Segments();
        run = new Run();
        fewestRuns = new int[ROOM];
        search = new Search();
        input = new Input();
    }

    // ---- entries

    public int put(int key, int value) throws IllegalArgumentException, IllegalStateException {
        checkKey(key);
        boolean isNew = !holds(key);
        if (isNew && gather().size >= MOST_ENTRIES) {
            throw new IllegalStateException("the index is full");
        }
        now.changes.enter(key, value, false);
        mergeOverCapacity();
        return isNew ? 1 : 0;
    }

    public int remove(int key) throws IllegalArgumentException, NoSuchElementException {
        checkKey(key);
        if (!holds(key)) {
            throw new NoSuchElementException("the index does not contain the key");
        }
        int value = valueOf(key);
        dropKey(key);
        mergeOverCapacity();
        return value;
    }

    public int get(int key) throws IllegalArgumentException, NoSuchElementException {
        checkKey(key);
        boolean isThere = holds(key);
        int value = valueOf(key);
        lookUp(key);
        if (!isThere) {
            throw new NoSuchElementException("the index does not contain the key");
        }
        return value;
    }

    public boolean contains(int key) throws IllegalArgumentException {
        checkKey(key);
        return holds(key);
    }

    public int count(int what) throws IllegalArgumentException {
        switch (what) {
            case 0:
                return gather().size;
            case 1:
                return now.main.size;
            case 2:
                return now.changes.size;
            case 3:
                return now.changes.removalsIn();
            case 4:
                return segments.size;
            case 5:
            case 6:
            case 7:
            case 8:
            case 9:
                return cell(now.tallies, what - 5);
            default:
                throw new IllegalArgumentException("there is no such count");
        }
    }

    public int clear() {
        int entries = gather().size;
        now.main.size = 0;
        now.changes.size = 0;
        for (int i = 0; i < TALLIES; i++) {
            store(now.tallies, i, 0);
        }
        segments.build(now.main, bound(), run);
        return entries;
    }

    // ---- order

    public int keyAt(int rank) throws IndexOutOfBoundsException {
        Entries all = gather();
        if (rank < 0 || rank >= all.size) {
            throw new IndexOutOfBoundsException("there is no key of this rank");
        }
        return all.key(rank);
    }

    public int rank(int number) {
        return gather().lesserThan(number);
    }

    public int neighbor(int number, boolean isUp) throws NoSuchElementException {
        Entries all = gather();
        int place = all.lesserThan(number);
        boolean isEqual = place < all.size && all.key(place) == number;
        if (!isUp && !isEqual) {
            place--;
        }
        if (place < 0 || place >= all.size) {
            throw new NoSuchElementException("there is no key on this side");
        }
        return all.key(place);
    }

    public long sum(int low, int high) {
        Entries all = gather();
        long total = 0;
        for (int i = 0; i < all.size; i++) {
            if (all.key(i) >= low && all.key(i) <= high) {
                total += all.value(i);
            }
        }
        return total;
    }

    // ---- the main part and the buffer

    public int main(int position, boolean isValue) throws IndexOutOfBoundsException {
        if (position < 0 || position >= now.main.size) {
            throw new IndexOutOfBoundsException("there is no such position");
        }
        return isValue ? now.main.value(position) : now.main.key(position);
    }

    public int change(int i, int what) throws IndexOutOfBoundsException, IllegalArgumentException {
        if (i < 0 || i >= now.changes.size) {
            throw new IndexOutOfBoundsException("there is no such change");
        }
        switch (what) {
            case 0:
                return now.changes.key(i);
            case 1:
                return now.changes.isRemoval(i) ? 1 : 0;
            case 2:
                return now.changes.value(i);
            default:
                throw new IllegalArgumentException("a change has no such part");
        }
    }

    public int merge() {
        int changes = now.changes.size;
        mergeBuffer();
        return changes;
    }

    public int set(int what, int value) throws IllegalArgumentException {
        if (!isSettingValue(what, value)) {
            throw new IllegalArgumentException("there is no such setting or value");
        }
        int previous = cell(now.settings, what);
        store(now.settings, what, value);
        if (what == BOUND) {
            segments.build(now.main, bound(), run);
        }
        if (what == CAPACITY) {
            mergeOverCapacity();
        }
        return previous;
    }

    // ---- segments

    public int segment(int segment, int what) throws IndexOutOfBoundsException, IllegalArgumentException {
        if (segment < 0 || segment >= segments.size) {
            throw new IndexOutOfBoundsException("there is no such segment");
        }
        switch (what) {
            case 0:
                return cell(segments.firsts, segment);
            case 1:
                return cell(segments.lasts, segment);
            case 2:
                return cell(segments.firstKeys, segment);
            case 3:
                return cell(segments.numerators, segment);
            case 4:
                return cell(segments.denominators, segment);
            default:
                throw new IllegalArgumentException("a segment has no such number");
        }
    }

    public int segmentOf(int key) throws IllegalArgumentException, IllegalStateException {
        checkKey(key);
        checkMainPart();
        return segments.placeOf(key);
    }

    public int predict(int key, int what) throws IllegalArgumentException, IllegalStateException {
        checkKey(key);
        if (what < 0 || what > 3) {
            throw new IllegalArgumentException("a prediction has no such number");
        }
        checkMainPart();
        aimAt(key);
        switch (what) {
            case 0:
                return search.prediction;
            case 1:
                return search.low;
            case 2:
                return search.high;
            default:
                return search.pagesOfWindow(pageSize());
        }
    }

    public int worst() {
        int worstYet = 0;
        for (int p = 0; p < now.main.size; p++) {
            aimAt(now.main.key(p));
            worstYet = Math.max(worstYet, Math.abs(search.prediction - p));
        }
        return worstYet;
    }

    public int fewest(int bound) throws IllegalArgumentException {
        if (!isSettingValue(BOUND, bound)) {
            throw new IllegalArgumentException("the bound is out of range");
        }
        int size = now.main.size;
        for (int end = 0; end <= size; end++) {
            store(fewestRuns, end, end);
        }
        // A run's line goes through its own first key, so that a shorter run can make the next one
        // longer: the longest runs need not be the fewest, and all ends of each run are tried.
        for (int first = 0; first < size; first++) {
            run.grow(now.main, first, bound);
            int runs = cell(fewestRuns, first) + 1;
            for (int end = first + 1; end <= run.last + 1; end++) {
                store(fewestRuns, end, Math.min(runs, cell(fewestRuns, end)));
            }
        }
        return cell(fewestRuns, size);
    }

    public int leastBound(int segments) throws IllegalArgumentException, NoSuchElementException {
        if (segments < 0) {
            throw new IllegalArgumentException("the number of segments is negative");
        }
        for (int bound = cell(LEAST_SETTINGS, BOUND); bound <= cell(GREATEST_SETTINGS, BOUND); bound++) {
            trial.build(now.main, bound, run);
            if (trial.size <= segments) {
                return bound;
            }
        }
        throw new NoSuchElementException("there is no such bound");
    }

    public int probes(int key) throws IllegalArgumentException {
        checkKey(key);
        searchFor(key);
        return search.probed;
    }

    public double meanWindow() throws ArithmeticException {
        int size = now.main.size;
        if (size <= 0) {
            throw new ArithmeticException("the main part is empty");
        }
        double positions = 0;
        for (int p = 0; p < size; p++) {
            aimAt(now.main.key(p));
            positions += search.high - search.low + 1;
        }
        return positions / size;
    }

    public float meanProbes() throws ArithmeticException {
        int lookups = cell(now.tallies, LOOKUPS);
        if (lookups <= 0) {
            throw new ArithmeticException("there were no lookups");
        }
        return (float) cell(now.tallies, PROBES) / (float) lookups;
    }

    // ---- texts and snapshots

    public int feed(char letter) throws IllegalStateException {
        if (input.length >= MOST_LETTERS) {
            throw new IllegalStateException("the input buffer is full");
        }
        input.append(letter);
        return input.length;
    }

    public int load() throws IllegalStateException {
        boolean isText = input.parse();
        input.length = 0;
        if (!isText) {
            return SYNTAX_ERROR - input.at;
        }
        if (wouldOverflow()) {
            throw new IllegalStateException("there would be too many entries");
        }
        for (int i = 0; i < input.entries; i++) {
            applyEntry(i);
            mergeOverCapacity();
        }
        return input.entries;
    }

    public int save() {
        saved.become(now);
        isSaved = true;
        return gather().size;
    }

    public int restore() throws IllegalStateException {
        if (!isSaved) {
            throw new IllegalStateException("nothing was saved");
        }
        now.become(saved);
        segments.build(now.main, bound(), run);
        return gather().size;
    }

    // ---- what the methods share

    private static int cell(int[] row, int i) {
        return i >= 0 && i < row.length ? row[i] : 0;
    }

    private static void store(int[] row, int i, int value) {
        if (i >= 0 && i < row.length) {
            row[i] = value;
        }
    }

    private static void copyRow(int[] from, int[] to, int cells) {
        for (int i = 0; i < cells; i++) {
            store(to, i, cell(from, i));
        }
    }

    private static void checkKey(int key) {
        if (key < 0 || key > GREATEST_KEY) {
            throw new IllegalArgumentException("there is no such key");
        }
    }

    private void checkMainPart() {
        if (now.main.size == 0) {
            throw new IllegalStateException("the main part is empty");
        }
    }

    private static boolean isSettingValue(int what, int value) {
        return what >= 0 && what < SETTINGS
            && value >= cell(LEAST_SETTINGS, what) && value <= cell(GREATEST_SETTINGS, what);
    }

    private int pageSize() {
        return cell(now.settings, PAGE_SIZE);
    }

    private Entries gather() {
        contents.gatherFrom(now.main, now.changes);
        return contents;
    }

    private boolean holds(int key) {
        int place = now.changes.find(key);
        return place >= 0 ? !now.changes.isRemoval(place) : now.main.find(key) >= 0;
    }

    private int valueOf(int key) {
        int place = now.changes.find(key);
        return place >= 0 ? now.changes.value(place) : now.main.value(now.main.find(key));
    }

    private void dropKey(int key) {
        if (now.main.find(key) >= 0) {
            now.changes.enter(key, 0, true);
        } else {
            now.changes.takeOut(now.changes.find(key));
        }
    }

    private void mergeOverCapacity() {
        if (now.changes.size > cell(now.settings, CAPACITY)) {
            mergeBuffer();
        }
    }

    private void mergeBuffer() {
        contents.gatherFrom(now.main, now.changes);
        now.main.become(contents);
        now.changes.size = 0;
        store(now.tallies, DEBT, 0);
        now.tally(MERGINGS, 1);
        segments.build(now.main, bound(), run);
    }

    private int bound() {
        return cell(now.settings, BOUND);
    }

    private void lookUp(int key) {
        now.tally(LOOKUPS, 1);
        now.tally(DEBT, now.changes.size);
        if (now.changes.find(key) < 0) {
            searchFor(key);
            now.tally(PROBES, search.probed);
            now.tally(PAGES, search.pages);
        }
        int factor = cell(now.settings, FACTOR);
        if (factor != 0 && cell(now.tallies, DEBT) >= 1 + factor * now.main.size) {
            mergeBuffer();
        }
    }

    private void aimAt(int key) {
        search.aim(segments, segments.placeOf(key), key, bound());
    }

    private void searchFor(int key) {
        aimAt(key);
        search.probe(now.main, key, pageSize());
    }

    private boolean wouldOverflow() {
        int entries = gather().size;
        for (int i = 0; i < input.entries; i++) {
            boolean isThere = isThereBefore(i);
            if (input.isRemoval(i) && isThere) {
                entries--;
            }
            if (!input.isRemoval(i) && !isThere) {
                entries++;
            }
            if (entries > MOST_ENTRIES) {
                return true;
            }
        }
        return false;
    }

    /** Whether the index will contain the key of a text's entry when that entry's turn comes. */
    private boolean isThereBefore(int entry) {
        int key = cell(input.keys, entry);
        for (int i = entry - 1; i >= 0; i--) {
            if (cell(input.keys, i) == key) {
                return !input.isRemoval(i);
            }
        }
        return holds(key);
    }

    private void applyEntry(int entry) {
        int key = cell(input.keys, entry);
        if (!input.isRemoval(entry)) {
            now.changes.enter(key, cell(input.values, entry), false);
        } else if (holds(key)) {
            dropKey(key);
        }
    }

    /** All that a snapshot keeps. The segments follow from the main part and the bound. */
    private static final class State {
        private final Entries main;
        private final Entries changes;
        private final int[] settings;
        private final int[] tallies;

        State() {
            main = new Entries();
            changes = new Entries();
            settings = new int[SETTINGS];
            tallies = new int[TALLIES];
            copyRow(FIRST_SETTINGS, settings, SETTINGS);
        }

        void tally(int which, int more) {
            store(tallies, which, cell(tallies, which) + more);
        }

        void become(State other) {
            main.become(other.main);
            changes.become(other.changes);
            copyRow(other.settings, settings, SETTINGS);
            copyRow(other.tallies, tallies, TALLIES);
        }
    }

    /** A list in ascending order of keys: the main part, the buffer, or the contents of both. */
    private static final class Entries {
        private final int[] keys;
        private final int[] values;
        private final int[] removals;
        private int size;

        Entries() {
            keys = new int[ROOM];
            values = new int[ROOM];
            removals = new int[ROOM];
            size = 0;
        }

        int key(int place) {
            return cell(keys, place);
        }

        int value(int place) {
            return cell(values, place);
        }

        boolean isRemoval(int place) {
            return cell(removals, place) == 1;
        }

        int removalsIn() {
            int found = 0;
            for (int i = 0; i < size; i++) {
                found += cell(removals, i);
            }
            return found;
        }

        int lesserThan(int number) {
            int lesser = 0;
            while (lesser < size && cell(keys, lesser) < number) {
                lesser++;
            }
            return lesser;
        }

        /** The place of a key, -1 if it is not in the list. */
        int find(int key) {
            int place = lesserThan(key);
            return place < size && key(place) == key ? place : -1;
        }

        /** Puts a key at its place, instead of what the list has for it. */
        void enter(int key, int value, boolean isRemoval) {
            int place = lesserThan(key);
            if (find(key) < 0) {
                for (int i = size; i > place; i--) {
                    copyCell(i - 1, i);
                }
                size = Math.min(size + 1, ROOM);
            }
            fill(place, key, value, isRemoval);
        }

        void takeOut(int place) {
            if (place < 0 || place >= size) {
                return;
            }
            for (int i = place + 1; i < size; i++) {
                copyCell(i, i - 1);
            }
            size--;
        }

        void become(Entries other) {
            size = other.size;
            copyRow(other.keys, keys, size);
            copyRow(other.values, values, size);
            copyRow(other.removals, removals, size);
        }

        void gatherFrom(Entries main, Entries changes) {
            size = 0;
            int position = 0;
            for (int i = 0; i < changes.size; i++) {
                int key = changes.key(i);
                for (; position < main.size && main.key(position) < key; position++) {
                    append(main.key(position), main.value(position));
                }
                if (position < main.size && main.key(position) == key) {
                    position++;
                }
                if (!changes.isRemoval(i)) {
                    append(key, changes.value(i));
                }
            }
            for (; position < main.size; position++) {
                append(main.key(position), main.value(position));
            }
        }

        private void append(int key, int value) {
            if (size < ROOM) {
                fill(size, key, value, false);
                size++;
            }
        }

        private void copyCell(int from, int to) {
            fill(to, key(from), value(from), isRemoval(from));
        }

        private void fill(int place, int key, int value, boolean isRemoval) {
            store(keys, place, key);
            store(values, place, value);
            store(removals, place, isRemoval ? 1 : 0);
        }
    }

    /** The longest run of positions from a first one that can be a segment, and its slope. */
    private static final class Run {
        private int last;
        private int numerator;
        private int denominator;
        private int topNumerator;
        private int topDenominator;

        void grow(Entries list, int first, int bound) {
            last = first;
            numerator = 0;
            denominator = 1;
            // Keys are different integers, so that no run asks for a slope above 1.
            topNumerator = 1;
            topDenominator = 1;
            boolean isFitting = true;
            for (int p = first + 1; p < list.size && isFitting; p++) {
                isFitting = takeIn(p - first, list.key(p) - list.key(first), bound);
                if (isFitting) {
                    last = p;
                }
            }
            reduce();
        }

        /** Narrows the slopes to those that fit one more position, or leaves them if none does. */
        private boolean takeIn(int rise, int distance, int bound) {
            if (isSteeper(rise - bound, distance, topNumerator, topDenominator)
                || isSteeper(numerator, denominator, rise + bound, distance)) {
                return false;
            }
            if (isSteeper(rise - bound, distance, numerator, denominator)) {
                numerator = rise - bound;
                denominator = distance;
            }
            if (isSteeper(topNumerator, topDenominator, rise + bound, distance)) {
                topNumerator = rise + bound;
                topDenominator = distance;
            }
            return true;
        }

        private static boolean isSteeper(int rise, int distance, int otherRise, int otherDistance) {
            return rise * otherDistance > otherRise * distance;
        }

        private void reduce() {
            int divisor = denominator;
            int rest = numerator;
            for (int i = 0; i < MOST_DIVISIONS && rest != 0; i++) {
                int next = divisor % rest;
                divisor = rest;
                rest = next;
            }
            if (divisor > 1) {
                numerator /= divisor;
                denominator /= divisor;
            }
        }
    }

    /** The segments of a main part, in ascending order of positions. */
    private static final class Segments {
        private final int[] firsts;
        private final int[] lasts;
        private final int[] firstKeys;
        private final int[] numerators;
        private final int[] denominators;
        private int size;

        Segments() {
            firsts = new int[ROOM];
            lasts = new int[ROOM];
            firstKeys = new int[ROOM];
            numerators = new int[ROOM];
            denominators = new int[ROOM];
            size = 0;
        }

        void build(Entries list, int bound, Run run) {
            size = 0;
            int first = 0;
            while (first < list.size && size < ROOM) {
                run.grow(list, first, bound);
                store(firsts, size, first);
                store(lasts, size, run.last);
                store(firstKeys, size, list.key(first));
                store(numerators, size, run.numerator);
                store(denominators, size, run.denominator);
                size++;
                first = run.last + 1;
            }
        }

        /** The segment of a key, 0 if there are none. */
        int placeOf(int key) {
            int place = 0;
            for (int i = 1; i < size; i++) {
                if (cell(firstKeys, i) <= key) {
                    place = i;
                }
            }
            return place;
        }
    }

    /** A prediction with its window, and what the search in it probed. */
    private static final class Search {
        private int prediction;
        private int low;
        private int high;
        private int probed;
        private int pages;

        /** Without segments the window is empty: it ends before it begins. */
        void aim(Segments segments, int segment, int key, int bound) {
            prediction = 0;
            low = 0;
            high = -1;
            if (segment < 0 || segment >= segments.size) {
                return;
            }
            int first = cell(segments.firsts, segment);
            int last = cell(segments.lasts, segment);
            int rise = cell(segments.numerators, segment) * (key - cell(segments.firstKeys, segment));
            int denominator = cell(segments.denominators, segment);
            int steps = denominator > 0 ? Math.floorDiv(rise, denominator) : 0;
            prediction = Math.min(Math.max(first + steps, first), last);
            low = Math.max(prediction - bound, first);
            high = Math.min(prediction + bound + 1, last);
        }

        int pagesOfWindow(int pageSize) {
            return pageOf(high, pageSize) - pageOf(low, pageSize) + 1;
        }

        /** Leaves the window as it is, but counts the probes of a search in it and their pages. */
        void probe(Entries list, int key, int pageSize) {
            int from = low;
            int to = high;
            // A window has fewer pages than a long has bits.
            long probedPages = 0;
            boolean isFound = false;
            probed = 0;
            while (from <= to && !isFound && probed < MOST_PROBES) {
                int middle = (from + to) / 2;
                probed++;
                probedPages |= 1L << (pageOf(middle, pageSize) - pageOf(low, pageSize));
                isFound = list.key(middle) == key;
                if (list.key(middle) < key) {
                    from = middle + 1;
                } else {
                    to = middle - 1;
                }
            }
            pages = Long.bitCount(probedPages);
        }

        private static int pageOf(int position, int pageSize) {
            return pageSize > 0 ? position / pageSize : 0;
        }
    }

    /** The input buffer, and the entries of the text that was parsed last. */
    private static final class Input {
        private static final int END = -1;

        private final int[] letters;
        private int length;
        private final int[] keys;
        private final int[] values;
        private final int[] removals;
        private int entries;
        private int at;
        private int number;

        Input() {
            letters = new int[MOST_LETTERS];
            keys = new int[MOST_LETTERS];
            values = new int[MOST_LETTERS];
            removals = new int[MOST_LETTERS];
        }

        void append(char letter) {
            store(letters, length, letter);
            length = Math.min(length + 1, MOST_LETTERS);
        }

        boolean isRemoval(int entry) {
            return cell(removals, entry) == 1;
        }

        /** Whether the letters are a text; if not, the reading place is the error position. */
        boolean parse() {
            at = 0;
            entries = 0;
            boolean isText = length == 0 || readEntry();
            for (int i = 0; i < MOST_LETTERS && isText && at < length; i++) {
                isText = take(';') && readEntry();
            }
            return isText;
        }

        private boolean readEntry() {
            if (!readNumber()) {
                return false;
            }
            store(keys, entries, number);
            boolean isRemoved = take('!');
            store(removals, entries, isRemoved ? 1 : 0);
            if (!isRemoved && !readValue()) {
                return false;
            }
            store(values, entries, isRemoved ? 0 : number);
            entries++;
            return true;
        }

        private boolean readValue() {
            if (!take('=')) {
                return false;
            }
            boolean isNegative = take('-');
            if (!readNumber()) {
                return false;
            }
            number = isNegative ? -number : number;
            return true;
        }

        private boolean readNumber() {
            number = 0;
            int digits = 0;
            while (digits < MOST_DIGITS && isDigit(letter())) {
                number = number * 10 + letter() - '0';
                digits++;
                at++;
            }
            return digits > 0;
        }

        private boolean take(int wanted) {
            if (letter() != wanted) {
                return false;
            }
            at++;
            return true;
        }

        private int letter() {
            return at < length ? cell(letters, at) : END;
        }

        private static boolean isDigit(int letter) {
            return letter >= '0' && letter <= '9';
        }
    }
}
