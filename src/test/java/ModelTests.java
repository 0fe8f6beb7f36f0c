import java.util.ArrayList;
import java.util.List;
import java.util.NoSuchElementException;
import java.util.Random;
import java.util.TreeMap;
import java.util.TreeSet;

/** Long seeded runs of calls on the class and on a plain model of the document, side by side. */
public final class ModelTests {
    private static final int RUNS = 1500;
    // The document says nothing about an object after so many calls.
    private static final int CALLS = 512;
    private static int wrong = 0;

    private interface Call {
        Object answer();
    }

    /** A change: a new value, or a removal if there is none. */
    private record Change(Integer value) {
    }

    private record Line(int first, int last, long numerator, long denominator) {
    }

    /** The document's words, as plainly as they go: no state but what it names. */
    private static final class Model {
        TreeMap<Integer, Integer> main = new TreeMap<>();
        TreeMap<Integer, Change> buffer = new TreeMap<>();
        int[] settings = {2, 8, 4, 0};
        int lookups;
        int probed;
        int paged;
        int debt;
        int mergings;
        StringBuilder letters = new StringBuilder();
        Model snapshot;
        List<Line> lines = new ArrayList<>();

        TreeMap<Integer, Integer> all() {
            TreeMap<Integer, Integer> all = new TreeMap<>(main);
            for (int key : buffer.keySet()) {
                Integer value = buffer.get(key).value();
                if (value == null) {
                    all.remove(key);
                } else {
                    all.put(key, value);
                }
            }
            return all;
        }

        int[] keys() {
            return main.keySet().stream().mapToInt(k -> k).toArray();
        }

        /** The line of the run from i to j with the least slope, null if the run can't be a segment. */
        static Line line(int[] keys, int i, int j, int bound) {
            long n = 0;
            long d = 1;
            for (int p = i + 1; p <= j; p++) {
                long lower = p - i - bound;
                if (lower * d > n * (keys[p] - keys[i])) {
                    n = lower;
                    d = keys[p] - keys[i];
                }
            }
            for (int p = i; p <= j; p++) {
                if (Math.abs(n * (keys[p] - keys[i]) - (long) (p - i) * d) > bound * d) {
                    return null;
                }
            }
            long g = java.math.BigInteger.valueOf(n).gcd(java.math.BigInteger.valueOf(d)).longValue();
            return new Line(i, j, n / g, d / g);
        }

        static List<Line> lines(int[] keys, int bound) {
            List<Line> lines = new ArrayList<>();
            int i = 0;
            while (i < keys.length) {
                Line longest = null;
                for (int j = i; j < keys.length; j++) {
                    Line line = line(keys, i, j, bound);
                    longest = line == null ? longest : line;
                }
                lines.add(longest);
                i = longest.last() + 1;
            }
            return lines;
        }

        void build() {
            lines = lines(keys(), settings[0]);
        }

        void mergeAll() {
            main = all();
            buffer.clear();
            debt = 0;
            mergings++;
            build();
        }

        void settle() {
            if (buffer.size() > settings[1]) {
                mergeAll();
            }
        }

        static void key(int key) {
            if (key < 0 || key > 9999) {
                throw new IllegalArgumentException();
            }
        }

        int put(int key, int value) {
            key(key);
            boolean isNew = !all().containsKey(key);
            if (isNew && all().size() == 150) {
                throw new IllegalStateException();
            }
            buffer.put(key, new Change(value));
            settle();
            return isNew ? 1 : 0;
        }

        int remove(int key) {
            key(key);
            Integer value = all().get(key);
            if (value == null) {
                throw new NoSuchElementException();
            }
            if (main.containsKey(key)) {
                buffer.put(key, new Change(null));
            } else {
                buffer.remove(key);
            }
            settle();
            return value;
        }

        int lineOf(int key) {
            int[] keys = keys();
            int found = 0;
            for (int i = 0; i < lines.size(); i++) {
                if (keys[lines.get(i).first()] <= key) {
                    found = i;
                }
            }
            return found;
        }

        /** The prediction and the ends of the window. */
        int[] window(int key) {
            int[] keys = keys();
            Line line = lines.get(lineOf(key));
            double exact = (double) line.numerator() * (key - keys[line.first()]) / line.denominator();
            int guess = (int) Math.floor(line.first() + exact + 1e-9);
            guess = Math.min(line.last(), Math.max(line.first(), guess));
            return new int[] {guess, Math.max(line.first(), guess - settings[0]),
                Math.min(line.last(), guess + settings[0] + 1)};
        }

        List<Integer> probed(int key) {
            List<Integer> places = new ArrayList<>();
            if (main.isEmpty()) {
                return places;
            }
            int[] keys = keys();
            int low = window(key)[1];
            int high = window(key)[2];
            while (low <= high) {
                int m = (low + high) / 2;
                places.add(m);
                if (keys[m] == key) {
                    break;
                } else if (keys[m] < key) {
                    low = m + 1;
                } else {
                    high = m - 1;
                }
            }
            return places;
        }

        int get(int key) {
            key(key);
            Integer value = all().get(key);
            lookups++;
            debt += buffer.size();
            if (!buffer.containsKey(key)) {
                TreeSet<Integer> pages = new TreeSet<>();
                for (int place : probed(key)) {
                    probed++;
                    pages.add(place / settings[2]);
                }
                paged += pages.size();
            }
            if (settings[3] != 0 && debt >= 1 + settings[3] * main.size()) {
                mergeAll();
            }
            if (value == null) {
                throw new NoSuchElementException();
            }
            return value;
        }

        boolean contains(int key) {
            key(key);
            return all().containsKey(key);
        }

        int count(int what) {
            int removals = (int) buffer.values().stream().filter(c -> c.value() == null).count();
            int[] counts = {all().size(), main.size(), buffer.size(), removals, lines.size(),
                lookups, probed, paged, debt, mergings};
            if (what < 0 || what > 9) {
                throw new IllegalArgumentException();
            }
            return counts[what];
        }

        int clear() {
            int size = all().size();
            main.clear();
            buffer.clear();
            lookups = probed = paged = debt = mergings = 0;
            build();
            return size;
        }

        int keyAt(int rank) {
            if (rank < 0 || rank >= all().size()) {
                throw new IndexOutOfBoundsException();
            }
            return new ArrayList<>(all().keySet()).get(rank);
        }

        int neighbor(int number, boolean isUp) {
            Integer key = isUp ? all().ceilingKey(number) : all().floorKey(number);
            if (key == null) {
                throw new NoSuchElementException();
            }
            return key;
        }

        long sum(int low, int high) {
            if (high < low) {
                return 0;
            }
            return all().subMap(low, true, high, true).values().stream().mapToLong(v -> v).sum();
        }

        int main(int position, boolean isValue) {
            if (position < 0 || position >= main.size()) {
                throw new IndexOutOfBoundsException();
            }
            return isValue ? main.get(keys()[position]) : keys()[position];
        }

        int change(int i, int what) {
            if (i < 0 || i >= buffer.size()) {
                throw new IndexOutOfBoundsException();
            }
            if (what < 0 || what > 2) {
                throw new IllegalArgumentException();
            }
            int key = new ArrayList<>(buffer.keySet()).get(i);
            Integer value = buffer.get(key).value();
            return new int[] {key, value == null ? 1 : 0, value == null ? 0 : value}[what];
        }

        int merge() {
            int size = buffer.size();
            mergeAll();
            return size;
        }

        int set(int what, int value) {
            int[] least = {1, 1, 1, 0};
            int[] most = {8, 20, 16, 9};
            if (what < 0 || what > 3 || value < least[what] || value > most[what]) {
                throw new IllegalArgumentException();
            }
            int previous = settings[what];
            settings[what] = value;
            if (what == 0) {
                build();
            }
            if (what == 1) {
                settle();
            }
            return previous;
        }

        int segment(int segment, int what) {
            if (segment < 0 || segment >= lines.size()) {
                throw new IndexOutOfBoundsException();
            }
            if (what < 0 || what > 4) {
                throw new IllegalArgumentException();
            }
            Line line = lines.get(segment);
            return new int[] {line.first(), line.last(), keys()[line.first()],
                (int) line.numerator(), (int) line.denominator()}[what];
        }

        void mainPart() {
            if (main.isEmpty()) {
                throw new IllegalStateException();
            }
        }

        int segmentOf(int key) {
            key(key);
            mainPart();
            return lineOf(key);
        }

        int predict(int key, int what) {
            key(key);
            if (what < 0 || what > 3) {
                throw new IllegalArgumentException();
            }
            mainPart();
            int[] window = window(key);
            TreeSet<Integer> pages = new TreeSet<>();
            for (int p = window[1]; p <= window[2]; p++) {
                pages.add(p / settings[2]);
            }
            return what == 3 ? pages.size() : window[what];
        }

        int worst() {
            int worst = 0;
            int[] keys = keys();
            for (int p = 0; p < keys.length; p++) {
                worst = Math.max(worst, Math.abs(window(keys[p])[0] - p));
            }
            return worst;
        }

        int fewest(int bound) {
            if (bound < 1 || bound > 8) {
                throw new IllegalArgumentException();
            }
            int[] keys = keys();
            int[] least = new int[keys.length + 1];
            for (int end = 1; end <= keys.length; end++) {
                least[end] = Integer.MAX_VALUE;
                for (int i = 0; i < end; i++) {
                    if (line(keys, i, end - 1, bound) != null) {
                        least[end] = Math.min(least[end], least[i] + 1);
                    }
                }
            }
            return least[keys.length];
        }

        int leastBound(int segments) {
            if (segments < 0) {
                throw new IllegalArgumentException();
            }
            for (int bound = 1; bound <= 8; bound++) {
                if (lines(keys(), bound).size() <= segments) {
                    return bound;
                }
            }
            throw new NoSuchElementException();
        }

        int probes(int key) {
            key(key);
            return probed(key).size();
        }

        double meanWindow() {
            if (main.isEmpty()) {
                throw new ArithmeticException();
            }
            double sum = 0;
            for (int key : main.keySet()) {
                sum += window(key)[2] - window(key)[1] + 1;
            }
            return sum / main.size();
        }

        float meanProbes() {
            if (lookups == 0) {
                throw new ArithmeticException();
            }
            return (float) probed / (float) lookups;
        }

        int feed(char letter) {
            if (letters.length() == 100) {
                throw new IllegalStateException();
            }
            letters.append(letter);
            return letters.length();
        }

        /** Whether the text can be continued, by a text or by nothing, to one of the document's form. */
        static boolean canStart(String text) {
            return text.matches("([0-9]{1,4}(=-?[0-9]{1,4}|!);)*([0-9]{0,4}|[0-9]{1,4}(!|=|=-|=-?[0-9]{1,4}))");
        }

        static boolean isText(String text) {
            String entry = "[0-9]{1,4}(=-?[0-9]{1,4}|!)";
            return text.matches("(" + entry + "(;" + entry + ")*)?");
        }

        int load() {
            String text = letters.toString();
            letters.setLength(0);
            if (!isText(text)) {
                int at = 0;
                while (at < text.length() && canStart(text.substring(0, at + 1))) {
                    at++;
                }
                return -100 - at;
            }
            String[] entries = text.isEmpty() ? new String[0] : text.split(";");
            TreeSet<Integer> keys = new TreeSet<>(all().keySet());
            for (String entry : entries) {
                apply(entry, keys);
                if (keys.size() > 150) {
                    throw new IllegalStateException();
                }
            }
            for (String entry : entries) {
                if (!entry.endsWith("!")) {
                    String[] parts = entry.split("=");
                    put(Integer.parseInt(parts[0]), Integer.parseInt(parts[1]));
                } else if (contains(Integer.parseInt(entry.substring(0, entry.length() - 1)))) {
                    remove(Integer.parseInt(entry.substring(0, entry.length() - 1)));
                }
            }
            return entries.length;
        }

        static void apply(String entry, TreeSet<Integer> keys) {
            if (entry.endsWith("!")) {
                keys.remove(Integer.parseInt(entry.substring(0, entry.length() - 1)));
            } else {
                keys.add(Integer.parseInt(entry.split("=")[0]));
            }
        }

        void become(Model other) {
            main = new TreeMap<>(other.main);
            buffer = new TreeMap<>(other.buffer);
            settings = other.settings.clone();
            lookups = other.lookups;
            probed = other.probed;
            paged = other.paged;
            debt = other.debt;
            mergings = other.mergings;
            build();
        }

        int save() {
            snapshot = new Model();
            snapshot.become(this);
            return all().size();
        }

        int restore() {
            if (snapshot == null) {
                throw new IllegalStateException();
            }
            become(snapshot);
            return all().size();
        }
    }

    private static Object answerOf(Call call) {
        try {
            return call.answer();
        } catch (RuntimeException e) {
            return e.getClass();
        }
    }

    private static void same(String where, String what, Call got, Call due) {
        Object a = answerOf(got);
        Object b = answerOf(due);
        if (!a.equals(b)) {
            wrong++;
            if (wrong < 40) {
                System.out.println(where + ": " + what + " answered " + a + ", due is " + b);
            }
        }
    }

    private static final class Run {
        final LearnedIndex x = new LearnedIndex();
        final Model m = new Model();
        final Random random;
        final int greatestKey;
        final int observations;
        final int changingCalls;
        final String where;
        int calls = 0;

        Run(int seed) {
            random = new Random(seed);
            int[] spans = {12, 40, 160, 400, 2000, 9999};
            greatestKey = spans[seed % spans.length];
            observations = seed % 4 == 0 ? 60 : 20;
            changingCalls = CALLS - 20 - 140 * (seed % 3);
            where = "seed " + seed;
        }

        void check(String what, Call got, Call due) {
            if (calls < CALLS) {
                calls++;
                same(where + " call " + calls, what, got, due);
            }
        }

        int key() {
            int die = random.nextInt(60);
            if (die < 2) {
                return die == 0 ? -1 - random.nextInt(3) : 10000 + random.nextInt(3);
            }
            // Clusters of keys make lines of many slopes.
            int near = random.nextInt(greatestKey + 1);
            return die < 30 ? near * near / (greatestKey + 1) : near;
        }

        int value() {
            int[] edges = {0, Integer.MAX_VALUE, Integer.MIN_VALUE, -1};
            return random.nextInt(6) == 0 ? edges[random.nextInt(4)] : random.nextInt(2001) - 1000;
        }

        int about(int size) {
            return random.nextInt(size + 3) - 1;
        }

        int number() {
            int[] edges = {Integer.MAX_VALUE, Integer.MIN_VALUE, -1, 10000};
            return random.nextInt(10) == 0 ? edges[random.nextInt(4)] : key();
        }

        String text() {
            StringBuilder text = new StringBuilder();
            int entries = random.nextInt(24);
            for (int i = 0; i < entries; i++) {
                text.append(i == 0 ? "" : ";").append(Math.max(0, Math.min(9999, key())));
                if (random.nextInt(4) == 0) {
                    text.append('!');
                } else {
                    text.append('=').append(random.nextInt(3) == 0 ? "-" : "").append(random.nextInt(120));
                }
            }
            if (random.nextInt(3) == 0 && text.length() > 0) {
                char[] letters = {'!', '=', '-', ';', '0', '5', ' ', 'x', (char) 233, (char) 0x661};
                text.setCharAt(random.nextInt(text.length()), letters[random.nextInt(letters.length)]);
            }
            return text.substring(0, Math.min(text.length(), 100));
        }

        void loadText() {
            String text = text();
            for (char letter : text.toCharArray()) {
                check("feed " + letter, () -> x.feed(letter), () -> m.feed(letter));
            }
            check("load " + text, () -> x.load(), () -> m.load());
        }

        void change() {
            int key = key();
            int value = value();
            switch (random.nextInt(24)) {
                case 0, 1, 2, 3, 4, 5, 6, 7 ->
                    check("put(" + key + ", " + value + ")", () -> x.put(key, value), () -> m.put(key, value));
                case 8, 9, 10 -> check("remove(" + key + ")", () -> x.remove(key), () -> m.remove(key));
                case 11, 12, 13, 14, 15, 16 -> check("get(" + key + ")", () -> x.get(key), () -> m.get(key));
                case 17 -> setSomething();
                case 18, 19, 20 -> loadText();
                default -> rareChange();
            }
        }

        void rareChange() {
            switch (random.nextInt(12)) {
                case 0 -> check("clear", () -> x.clear(), () -> m.clear());
                case 1, 2, 3 -> check("merge", () -> x.merge(), () -> m.merge());
                case 4, 5 -> check("save", () -> x.save(), () -> m.save());
                case 6, 7 -> check("restore", () -> x.restore(), () -> m.restore());
                default -> setSomething();
            }
        }

        void setSomething() {
            int what = random.nextInt(10) == 0 ? about(4) : random.nextInt(4);
            int value = what == 0 ? about(8) : what == 1 ? about(20) : what == 2 ? about(16) : about(9);
            check("set(" + what + ", " + value + ")", () -> x.set(what, value), () -> m.set(what, value));
        }

        void observe() {
            int key = key();
            int number = number();
            int other = number();
            int what = random.nextInt(7) - 1;
            int place = about(m.main.size());
            int bound = about(8);
            int segments = about(m.lines.size() + 1);
            int which = about(10);
            boolean flag = random.nextBoolean();
            switch (random.nextInt(18)) {
                case 0 -> check("contains(" + key + ")", () -> x.contains(key), () -> m.contains(key));
                case 1 -> check("keyAt(" + place + ")", () -> x.keyAt(place), () -> m.keyAt(place));
                case 2 -> check("rank(" + number + ")", () -> x.rank(number),
                    () -> m.all().headMap(number).size());
                case 3 -> check("neighbor(" + number + ", " + flag + ")",
                    () -> x.neighbor(number, flag), () -> m.neighbor(number, flag));
                case 4 -> check("sum(" + number + ", " + other + ")",
                    () -> x.sum(number, other), () -> m.sum(number, other));
                case 5 -> check("main(" + place + ", " + flag + ")",
                    () -> x.main(place, flag), () -> m.main(place, flag));
                case 6 -> observeChange(what);
                case 7 -> observeSegment(what);
                case 8 -> check("segmentOf(" + key + ")", () -> x.segmentOf(key), () -> m.segmentOf(key));
                case 9, 10 -> check("predict(" + key + ", " + what + ")",
                    () -> x.predict(key, what), () -> m.predict(key, what));
                case 11 -> check("worst", () -> x.worst(), () -> m.worst());
                case 12 -> check("fewest(" + bound + ")", () -> x.fewest(bound), () -> m.fewest(bound));
                case 13 -> check("leastBound(" + segments + ")",
                    () -> x.leastBound(segments), () -> m.leastBound(segments));
                case 14 -> check("probes(" + key + ")", () -> x.probes(key), () -> m.probes(key));
                case 15 -> check("meanWindow", () -> x.meanWindow(), () -> m.meanWindow());
                case 16 -> check("meanProbes", () -> x.meanProbes(), () -> m.meanProbes());
                default -> check("count(" + which + ")", () -> x.count(which), () -> m.count(which));
            }
        }

        void observeChange(int what) {
            int i = about(m.buffer.size());
            check("change(" + i + ", " + what + ")", () -> x.change(i, what), () -> m.change(i, what));
        }

        void observeSegment(int what) {
            int i = about(m.lines.size());
            check("segment(" + i + ", " + what + ")", () -> x.segment(i, what), () -> m.segment(i, what));
        }

        /** All of the state that the face shows, as far as the calls that are left go. */
        void compareAll() {
            for (int what = 0; what < 10; what++) {
                int w = what;
                check("count " + w, () -> x.count(w), () -> m.count(w));
            }
            for (int i = 0; i < m.buffer.size(); i++) {
                compareRow("change", i, 3);
            }
            for (int i = 0; i < m.lines.size(); i++) {
                compareRow("segment", i, 5);
            }
            for (int p = 0; p < m.main.size(); p++) {
                int place = p;
                check("main key " + p, () -> x.main(place, false), () -> m.main(place, false));
                check("main value " + p, () -> x.main(place, true), () -> m.main(place, true));
            }
        }

        void compareRow(String row, int i, int parts) {
            boolean isChange = row.equals("change");
            for (int what = 0; what < parts; what++) {
                int w = what;
                check(row + " " + i + " " + w, () -> isChange ? x.change(i, w) : x.segment(i, w),
                    () -> isChange ? m.change(i, w) : m.segment(i, w));
            }
        }

        /** Some runs begin almost full, since mixed calls alone seldom reach the greatest number of entries. */
        void fill() {
            for (int i = 0; i < 220 && m.all().size() < 147; i++) {
                int key = key();
                int value = value();
                check("put(" + key + ", " + value + ")", () -> x.put(key, value), () -> m.put(key, value));
            }
        }

        void go(boolean isFilled) {
            if (isFilled) {
                fill();
            }
            while (calls < changingCalls) {
                if (random.nextInt(100) < observations) {
                    observe();
                } else {
                    change();
                }
            }
            compareAll();
        }
    }

    public static void main(String[] args) {
        for (int seed = 1; seed <= RUNS; seed++) {
            new Run(seed).go(seed % 5 == 0);
        }
        System.out.println(wrong == 0 ? "all answers are as due" : wrong + " answers are not as due");
        System.exit(wrong == 0 ? 0 : 1);
    }
}
