import java.util.ArrayList;
import java.util.List;

/**
 * An object of the class on the bench. The document speaks of an object's first 512 calls alone, so when
 * these are used up, a new object is led to where the old one was, and is asked on.
 */
final class Bench {
    static final int BAD = HighlightPlaces.BAD;
    static final int FULL = HighlightPlaces.FULL;
    static final int[] FAR = {Integer.MIN_VALUE, -1000, -2, 1000, 1000000, Integer.MAX_VALUE};

    private static final int CALLS_MOST = 512;
    private static final int SECONDS_MOST = 180;
    private static int wrong = 0;
    private static String part = "";

    private HighlightPlaces x = new HighlightPlaces();
    private int calls = 0;
    private boolean renewed = false;
    private final List<Change> changes = new ArrayList<>();

    private interface Call {
        int on(HighlightPlaces x);
    }

    /** A call that may change the object, and what it answered. */
    private static final class Change {
        final String name;
        final Call call;
        final int answer;

        Change(String name, Call call, int answer) {
            this.name = name;
            this.call = call;
            this.answer = answer;
        }
    }

    static Bench of(String text, String query) {
        Bench bench = new Bench();
        refuseFault(text, bench.text(text));
        refuseFault(query, bench.query(query));
        return bench;
    }

    static Bench ofText(String text) {
        Bench bench = new Bench();
        refuseFault(text, bench.text(text));
        return bench;
    }

    private static void refuseFault(String bytes, int answer) {
        if (answer < 0) {
            due("{" + bytes + "} has no fault, its answer", answer, 0);
        }
    }

    // What is wrong is told and counted.

    static void part(String name) {
        part = name;
    }

    static void due(String call, int got, int want) {
        if (got != want) {
            wrong++;
            System.out.println(part + ": " + call + " answered " + got + ", due is " + want);
        }
    }

    static void due(String call, String got, String want) {
        if (!got.equals(want)) {
            wrong++;
            System.out.println(part + ": " + call + " gave {" + got + "}, due is {" + want + "}");
        }
    }

    static int wrong() {
        return wrong;
    }

    /** Every call has an end: a test that takes too long is stopped, and has failed. */
    static void begin() {
        Thread watch = new Thread(() -> {
            try {
                Thread.sleep(1000L * SECONDS_MOST);
            } catch (InterruptedException e) {
                return;
            }
            System.out.println(part + ": not done after " + SECONDS_MOST + " seconds");
            Runtime.getRuntime().halt(1);
        });
        watch.setDaemon(true);
        watch.start();
    }

    static void end() {
        System.out.println(wrong == 0 ? "all answers are as due" : wrong + " answers are not as due");
        System.exit(wrong == 0 ? 0 : 1);
    }

    // The calls of the class.

    int feed(int a, int b, int c, int d, int e) {
        return change("feed", object -> object.feed(a, b, c, d, e));
    }

    int cut(int n) {
        return change("cut(" + n + ")", object -> object.cut(n));
    }

    int text() {
        return change("text()", object -> object.text());
    }

    int query() {
        return change("query()", object -> object.query());
    }

    int limit(int n) {
        return change("limit(" + n + ")", object -> object.limit(n));
    }

    int passages(int n) {
        return change("passages(" + n + ")", object -> object.passages(n));
    }

    int print(boolean whole) {
        return change("print(" + whole + ")", object -> object.print(whole));
    }

    int matches() {
        return next().matches();
    }

    int word(int k, int what) {
        return next().word(k, what);
    }

    int letter(int k, int i) {
        return next().letter(k, i);
    }

    int sentence(int k, int what) {
        return next().sentence(k, what);
    }

    int leaf(int k, int what) {
        return next().leaf(k, what);
    }

    int place(int k, int what) {
        return next().place(k, what);
    }

    int passage(int k, int what) {
        return next().passage(k, what);
    }

    int printed(int i) {
        return next().printed(i);
    }

    int count(int what) {
        return next().count(what);
    }

    private int change(String name, Call call) {
        int answer = call.on(next());
        changes.add(new Change(name, call, answer));
        return answer;
    }

    private HighlightPlaces next() {
        if (calls == CALLS_MOST) {
            renew();
        }
        calls++;
        return x;
    }

    private void renew() {
        if (changes.size() >= CALLS_MOST) {
            throw new IllegalStateException(part + ": a test uses one object for more than 512 calls");
        }
        x = new HighlightPlaces();
        renewed = true;
        calls = changes.size();
        for (Change change : changes) {
            due(change.name + " on a new object, once more", change.call.on(x), change.answer);
        }
    }

    boolean isRenewed() {
        return renewed;
    }

    // Calls together.

    /** Puts bytes on an empty tape. */
    void load(String bytes) {
        for (int i = 0; i < bytes.length(); i += 20) {
            feed(four(bytes, i), four(bytes, i + 4), four(bytes, i + 8), four(bytes, i + 12), four(bytes, i + 16));
        }
        cut(bytes.length());
    }

    private static int four(String bytes, int from) {
        int number = 0;
        for (int i = from; i < from + 4; i++) {
            number = number << 8 | (i < bytes.length() ? bytes.charAt(i) : 'z');
        }
        return number;
    }

    int text(String bytes) {
        load(bytes);
        return text();
    }

    int query(String bytes) {
        load(bytes);
        return query();
    }

    String letters(int k) {
        StringBuilder out = new StringBuilder();
        int letters = word(k, 5);
        for (int i = 0; i < letters; i++) {
            out.append((char) letter(k, i));
        }
        return out.toString();
    }

    /** The words' letters, with a blank between two. */
    String words() {
        return row(count(0), k -> letters(k));
    }

    /** One number of each word. */
    String words(int what) {
        return row(count(0), k -> "" + word(k, what));
    }

    /** The sentences as their words, first+how many. */
    String sentences() {
        return row(count(1), k -> sentence(k, 0) + "+" + sentence(k, 1));
    }

    /** The sentences as their bytes, first-behind the last. */
    String sentenceBytes() {
        return row(count(1), k -> sentence(k, 3) + "-" + sentence(k, 4));
    }

    String scores() {
        return row(count(1), k -> "" + sentence(k, 2));
    }

    /** One number of each LEAF. */
    String leaves(int what) {
        return row(count(3), k -> "" + leaf(k, what));
    }

    /** The places as first-last. */
    String places() {
        return row(count(2), k -> place(k, 0) + "-" + place(k, 1));
    }

    /** Chooses PASSAGES, as first-last. */
    String chosen(int n) {
        due("passages(" + n + ") and count(4)", passages(n), count(4));
        return passages();
    }

    String passages() {
        return row(count(4), k -> passage(k, 0) + "-" + passage(k, 1));
    }

    String whole() {
        due("print(true) and count(5)", print(true), count(5));
        return printed();
    }

    String some() {
        due("print(false) and count(5)", print(false), count(5));
        return printed();
    }

    String printed() {
        StringBuilder out = new StringBuilder();
        int bytes = count(5);
        for (int i = 0; i < bytes; i++) {
            out.append((char) printed(i));
        }
        return out.toString();
    }

    /** All that can be asked, but for what was put out latest and THE TAPE. */
    String all() {
        StringBuilder out = new StringBuilder("matches " + matches() + " words " + words());
        for (int what = 0; what < 6; what++) {
            out.append(" / ").append(words(what));
        }
        out.append(" sentences ").append(sentences()).append(' ').append(sentenceBytes()).append(' ').append(scores());
        for (int what = 0; what < 6; what++) {
            out.append(" / ").append(leaves(what));
        }
        out.append(" places ").append(places()).append(" passages ").append(passages());
        for (int what = 0; what < 8; what++) {
            out.append(' ').append(what == 5 ? "" : count(what));
        }
        return out.toString();
    }

    private interface Named {
        String at(int k);
    }

    private static String row(int size, Named named) {
        StringBuilder out = new StringBuilder();
        for (int k = 0; k < size; k++) {
            out.append(k > 0 ? " " : "").append(named.at(k));
        }
        return out.toString();
    }
}
