/** The promises one by one: what each call answers and changes, at its edges, beyond them, and in between. */
public final class HighlightPlacesPromises {
    private static final int BAD = Bench.BAD;
    private static final int FULL = Bench.FULL;
    private static final int BLANKS = 0x20202020;
    private static final String SUN = "The sun <b>s</b>et. Sand at sea! <p>Sea <i>sun</i> sets.</p> No cat";
    private static final String SUN_QUERY = "sun | \"sea sun\" & cat~";

    private static void due(String call, int got, int want) {
        Bench.due(call, got, want);
    }

    private static void due(String call, String got, String want) {
        Bench.due(call, got, want);
    }

    // Promise 1

    private static void newObjectChanges() {
        due("feed", new Bench().feed(BLANKS, BLANKS, BLANKS, BLANKS, BLANKS), 20);
        due("cut(0)", new Bench().cut(0), 0);
        due("cut(1)", new Bench().cut(1), BAD);
        due("cut(-1)", new Bench().cut(-1), BAD);
        due("text()", new Bench().text(), 0);
        due("query()", new Bench().query(), -1);
        due("limit(0)", new Bench().limit(0), 300);
        due("limit(300)", new Bench().limit(300), 300);
        due("limit(301)", new Bench().limit(301), BAD);
        due("passages(1)", new Bench().passages(1), 0);
        due("passages(9)", new Bench().passages(9), 0);
        due("passages(0)", new Bench().passages(0), BAD);
        due("passages(10)", new Bench().passages(10), BAD);
        due("print(true)", new Bench().print(true), 0);
        due("print(false)", new Bench().print(false), 0);
    }

    private static void newObjectAnswers() {
        Bench bench = new Bench();
        due("matches()", bench.matches(), 0);
        for (int what = -1; what <= 9; what++) {
            due("count(" + what + ")", bench.count(what), what >= 0 && what <= 8 ? 0 : BAD);
        }
        for (int k = -1; k <= 1; k++) {
            for (int what = -1; what <= 6; what++) {
                due("word(" + k + ", " + what + ")", bench.word(k, what), BAD);
                due("letter(" + k + ", " + what + ")", bench.letter(k, what), BAD);
                due("sentence(" + k + ", " + what + ")", bench.sentence(k, what), BAD);
                due("leaf(" + k + ", " + what + ")", bench.leaf(k, what), BAD);
                due("place(" + k + ", " + what + ")", bench.place(k, what), BAD);
                due("passage(" + k + ", " + what + ")", bench.passage(k, what), BAD);
            }
            due("printed(" + k + ")", bench.printed(k), BAD);
        }
    }

    /** "a query that is never TRUE, without LEAVES". */
    private static void newObjectQuery() {
        Bench bench = new Bench();
        bench.text("sun. sea");
        due("matches() with a text", bench.matches(), 0);
        due("LEAVES with a text", bench.count(3), 0);
        due("places with a text", bench.count(2), 0);
        due("SCOREs with a text", bench.scores(), "0 0");
        due("put out with a text", bench.whole(), "sun. sea");
        due("a wrong query", bench.query("("), -2);
        due("matches() after a wrong query", bench.matches(), 0);
        bench.limit(0);
        due("matches() with a LIMIT", bench.matches(), 0);
        due("a right query", bench.query("!x"), 1);
        due("matches() with a query", bench.matches(), 1);
    }

    // Promise 2

    /** "Twenty bytes, of each number the highest first, come behind THE TAPE". */
    private static void feedOrder() {
        Bench bench = new Bench();
        due("feed", bench.feed(0x61626364, 0x65666768, 0x696a6b6c, 0x6d6e6f70, 0x71727374), 20);
        due("feed", bench.feed(0x75767778, 0x797a3031, 0x32333435, 0x36373839, 0x41424344), 40);
        due("count(8)", bench.count(8), 40);
        due("text()", bench.text(), 1);
        due("the bytes", bench.words(), "abcdefghijklmnopqrstuvwxyz0123456789abcd");
    }

    /** Numbers below 0, and bytes above 127 anywhere in a number. */
    private static void feedBelowZero() {
        due("bytes 255", faultOf(-1, -1, -1, -1, -1), -1);
        due("byte 128", faultOf(Integer.MIN_VALUE, 0, 0, 0, 0), -1);
        for (int i = 0; i < 20; i++) {
            int[] five = {0x61616161, 0x61616161, 0x61616161, 0x61616161, 0x61616161};
            five[i / 4] |= 0x80 << 24 - i % 4 * 8;
            due("byte 225 at " + i, faultOf(five[0], five[1], five[2], five[3], five[4]), -1 - i);
            five[i / 4] |= 0xff << 24 - i % 4 * 8;
            due("byte 255 at " + i, faultOf(five[0], five[1], five[2], five[3], five[4]), -1 - i);
        }
        due("byte 127 within", faultOf(0x6161617f, 0, 0, 0, 0), -4);
        due("byte 126 within", faultOf(0x6161617e, 0x7f000000, 0, 0, 0), -5);
        Bench bench = new Bench();
        due("feed of numbers below 0", bench.feed(-1, -2, -3, -4, Integer.MIN_VALUE), 20);
        due("feed of numbers below 0", bench.feed(-1, -2, -3, -4, Integer.MIN_VALUE), 40);
        due("query()", bench.query(), -1);
    }

    private static int faultOf(int a, int b, int c, int d, int e) {
        Bench bench = new Bench();
        bench.feed(a, b, c, d, e);
        return bench.text();
    }

    private static Bench fed(int times) {
        Bench bench = new Bench();
        for (int i = 1; i <= times; i++) {
            due("feed " + i, bench.feed(BLANKS, BLANKS, BLANKS, BLANKS, BLANKS), 20 * i);
        }
        return bench;
    }

    /** "FULL: more than 1000". */
    private static void feedFull() {
        Bench bench = fed(50);
        due("count(8)", bench.count(8), 1000);
        due("feed at 1000", bench.feed(0, 0, 0, 0, 0), FULL);
        due("feed at 1000", bench.feed(0, 0, 0, 0, 0), FULL);
        due("nothing came", bench.count(8), 1000);
        due("text() of a full tape", bench.text(), 0);
        due("count(7)", bench.count(7), 1000);
        due("count(8) then", bench.count(8), 0);
        due("feed then", bench.feed(0, 0, 0, 0, 0), 20);
        for (int had = 980; had <= 1000; had++) {
            bench = fed(50);
            due("cut(" + had + ")", bench.cut(had), 1000);
            due("feed at " + had, bench.feed(BLANKS, BLANKS, BLANKS, BLANKS, BLANKS), had == 980 ? 1000 : FULL);
            due("count(8)", bench.count(8), had == 980 ? 1000 : had);
            due("cut(0)", bench.cut(0), had == 980 ? 1000 : had);
        }
        bench = fed(49);
        due("cut(979)", bench.cut(979), 980);
        due("feed at 979", bench.feed(0x61616161, 0x61616161, 0x61616161, 0x61616161, 0x61616161), 999);
        due("text()", bench.text(), 1);
        due("where they came", bench.word(0, 0), 979);
        bench = fed(50);
        due("query() of a full tape", bench.query(), -1001);
    }

    // Promise 3

    /** "THE TAPE keeps its first n bytes: how many it had. BAD: n is below 0, or more". */
    private static void cuts() {
        Bench bench = new Bench();
        bench.feed(0x61626364, 0x65666768, 0x696a6b6c, 0x6d6e6f70, 0x71727374);
        due("cut(-1)", bench.cut(-1), BAD);
        due("cut(21)", bench.cut(21), BAD);
        for (int n : Bench.FAR) {
            due("cut(" + n + ")", bench.cut(n), BAD);
        }
        due("a wrong one changes nothing", bench.count(8), 20);
        due("cut(20)", bench.cut(20), 20);
        due("all stay", bench.count(8), 20);
        due("cut(19)", bench.cut(19), 20);
        due("cut(20)", bench.cut(20), BAD);
        due("cut(3)", bench.cut(3), 19);
        due("cut(4)", bench.cut(4), BAD);
        due("cut(3)", bench.cut(3), 3);
        due("count(8)", bench.count(8), 3);
        due("feed", bench.feed(0x75767778, BLANKS, BLANKS, BLANKS, BLANKS), 23);
        due("text()", bench.text(), 1);
        due("the first three, and what came behind", bench.words(), "abcuvwx");
        due("count(7)", bench.count(7), 23);
    }

    private static void cutToNothing() {
        Bench bench = new Bench();
        bench.feed(-1, -1, -1, -1, -1);
        due("cut(0)", bench.cut(0), 20);
        due("count(8)", bench.count(8), 0);
        due("cut(0)", bench.cut(0), 0);
        due("cut(1)", bench.cut(1), BAD);
        due("text()", bench.text(), 0);
        due("cut(1) behind text()", bench.cut(1), BAD);
        bench.load("ab");
        bench.query();
        due("cut(1) behind query()", bench.cut(1), BAD);
        due("cut(0) behind query()", bench.cut(0), 0);
        bench = fed(50);
        due("cut(1001)", bench.cut(1001), BAD);
        due("cut(1000)", bench.cut(1000), 1000);
        due("cut(999)", bench.cut(999), 1000);
        due("cut(1000)", bench.cut(1000), BAD);
        due("cut(1)", bench.cut(1), 999);
        due("count(8)", bench.count(8), 1);
    }

    // Promise 4

    /** "THE TAPE, which is empty then, becomes THE TEXT: how many words it has". */
    private static void textTaken() {
        Bench bench = Bench.of("one two", "two");
        bench.load("two <b>t</b>wo. three");
        due("text()", bench.text(), 3);
        due("THE TAPE is empty", bench.count(8), 0);
        due("the words", bench.words(), "two two three");
        due("bytes", bench.count(7), 21);
        due("the query stays, and is held against it", bench.places(), "0-0 1-1");
        bench.limit(1);
        due("text()", bench.text("two two"), 2);
        due("THE LIMIT stays", bench.leaves(4), "1");
        due("words behind it", bench.count(6), 1);
    }

    private static void textEmpty() {
        Bench bench = Bench.of("sun. sea.", "sun");
        bench.passages(1);
        due("text() of an empty tape", bench.text(), 0);
        due("all", bench.all(), textless("sun").all());
        due("words", bench.count(0), 0);
        due("sentences", bench.count(1), 0);
        due("places", bench.count(2), 0);
        due("LEAVES", bench.count(3), 1);
        due("PASSAGES are gone", bench.count(4), 0);
        due("bytes", bench.count(7), 0);
        due("word(0, 0)", bench.word(0, 0), BAD);
        due("sentence(0, 0)", bench.sentence(0, 0), BAD);
        due("text of blanks", bench.text("   "), 0);
        due("its bytes", bench.count(7), 3);
    }

    private static Bench textless(String query) {
        Bench bench = new Bench();
        bench.query(query);
        return bench;
    }

    /** "or -1 less THE FAULT, and the text before stays". */
    private static void textFaults() {
        String[] wrong = {"a<b>", "x. y. <", "&", "\t", "a b c d e f g </b>", "<b></i>", "a ".repeat(301), "<b>".repeat(9)};
        int[] faults = {4, 6, 0, 0, 14, 3, 600, 24};
        for (int i = 0; i < wrong.length; i++) {
            Bench bench = Bench.of(SUN, SUN_QUERY);
            String before = bench.all();
            due("a wrong text", bench.text(wrong[i]), -1 - faults[i]);
            due("the text before", bench.all(), before);
            due("THE TAPE is empty", bench.count(8), 0);
            due("its signs", bench.whole(), Bench.of(SUN, SUN_QUERY).whole());
            due("a right text then", bench.text("sun"), 1);
            due("its place", bench.places(), "0-0");
            due("all", bench.all(), Bench.of("sun", SUN_QUERY).all());
        }
    }

    /** "PASSAGES are gone (in both cases)". */
    private static void textPassages() {
        Bench bench = Bench.of("sun. sea. sun", "sun");
        due("passages(2)", bench.passages(2), 2);
        due("a wrong text", bench.text("<"), -1);
        due("PASSAGES are gone", bench.count(4), 0);
        due("passage(0, 0)", bench.passage(0, 0), BAD);
        due("print(false)", bench.print(false), 0);
        due("passages(2)", bench.passages(2), 2);
        due("a right text", bench.text("sun. sea. sun"), 3);
        due("PASSAGES are gone", bench.count(4), 0);
        due("passage(0, 1)", bench.passage(0, 1), BAD);
        due("passages(2)", bench.passages(2), 2);
        due("an empty text", bench.text(), 0);
        due("PASSAGES are gone", bench.count(4), 0);
    }

    // Promise 5

    /** "THE TAPE, which is empty then, becomes THE QUERY: how many LEAVES it has". */
    private static void queryTaken() {
        Bench bench = Bench.of("one two. three", "two");
        bench.load("one & \"one two\"/3 | !three");
        due("query()", bench.query(), 3);
        due("THE TAPE is empty", bench.count(8), 0);
        due("LEAVES", bench.count(3), 3);
        due("TERMS", bench.leaves(0), "1 2 1");
        due("the text stays, and it is held against it", bench.places(), "0-0 1-1");
        bench.limit(1);
        due("query()", bench.query("one|two"), 2);
        due("THE LIMIT stays", bench.leaves(4), "1 0");
    }

    /** "or -1 less ITS FAULT, and the query before stays". */
    private static void queryFaults() {
        String[] wrong = {"", "  ", "a b", "(", "x & (y | \"z", "|", "*", "a|b|c|d|e|f|g|h|i|j|k|l|m", "(((((((((a", "!)",
            "\"a b c d e f g\""};
        int[] faults = {0, 2, 2, 1, 11, 0, 0, 24, 8, 1, 13};
        for (int i = 0; i < wrong.length; i++) {
            Bench bench = Bench.of(SUN, SUN_QUERY);
            String before = bench.all();
            due("a wrong query {" + wrong[i] + "}", bench.query(wrong[i]), -1 - faults[i]);
            due("the query before", bench.all(), before);
            due("THE TAPE is empty", bench.count(8), 0);
            bench.limit(300);
            due("it is held against the text anew", bench.all(), before);
            due("a right query then", bench.query("sea"), 1);
            due("all", bench.all(), Bench.of(SUN, "sea").all());
        }
    }

    /** "PASSAGES are gone", if there was a fault, too. */
    private static void queryPassages() {
        Bench bench = Bench.of("sun. sea. sun", "sun");
        due("passages(2)", bench.passages(2), 2);
        due("a wrong query", bench.query("("), -2);
        due("PASSAGES are gone", bench.count(4), 0);
        due("passage(0, 0)", bench.passage(0, 0), BAD);
        due("print(false)", bench.print(false), 0);
        due("passages(2)", bench.passages(2), 2);
        due("a right query", bench.query("sun"), 1);
        due("PASSAGES are gone", bench.count(4), 0);
        due("passage(0, 1)", bench.passage(0, 1), BAD);
        due("passages(2)", bench.passages(2), 2);
        due("query() of an empty tape", bench.query(), -1);
        due("PASSAGES are gone", bench.count(4), 0);
        due("the query before", bench.matches(), 1);
    }

    // Promise 6

    /** "THE LIMIT becomes n: what it was. .. BAD: n is not 0 .. 300". */
    private static void limits() {
        Bench bench = Bench.of("sun sea sun", "\"sun sea\" | sun");
        due("limit(2)", bench.limit(2), 300);
        due("places", bench.places(), "0-1");
        due("words behind", bench.count(6), 1);
        due("limit(1)", bench.limit(1), 2);
        due("places", bench.places(), "0-0");
        due("LEAVES", bench.leaves(2), "0 1");
        due("limit(0)", bench.limit(0), 1);
        due("matches()", bench.matches(), 0);
        due("places", bench.places(), "");
        due("limit(-1)", bench.limit(-1), BAD);
        due("limit(301)", bench.limit(301), BAD);
        for (int n : Bench.FAR) {
            due("limit(" + n + ")", bench.limit(n), BAD);
        }
        due("a wrong one changes nothing", bench.count(6), 3);
        due("limit(300)", bench.limit(300), 0);
        due("places", bench.places(), "0-1 2-2");
        due("limit(3)", bench.limit(3), 300);
        due("places", bench.places(), "0-1 2-2");
        due("limit(299)", bench.limit(299), 3);
        due("limit(299)", bench.limit(299), 299);
    }

    /** "PASSAGES are gone." */
    private static void limitPassages() {
        Bench bench = Bench.of("sun. sea. sun", "sun");
        bench.passages(2);
        due("limit(301)", bench.limit(301), BAD);
        due("limit(-1)", bench.limit(-1), BAD);
        due("a wrong one changes nothing", bench.passages(), "0-0 2-2");
        due("limit(300)", bench.limit(300), 300);
        due("PASSAGES are gone", bench.count(4), 0);
        due("passage(0, 0)", bench.passage(0, 0), BAD);
        due("print(false)", bench.print(false), 0);
        bench.limit(1);
        due("PASSAGES of the words looked at", bench.chosen(9), "0-0");
    }

    // Promise 7

    private static void matches() {
        Bench bench = new Bench();
        due("at first", bench.matches(), 0);
        bench.text("sun sea");
        bench.query("sea");
        due("a TRUE one", bench.matches(), 1);
        due("asked again", bench.matches(), 1);
        bench.query("sea & cat");
        due("one that is not", bench.matches(), 0);
        bench.query("!cat");
        due("a TRUE one without places", bench.matches(), 1);
        bench.query("sea");
        bench.limit(1);
        due("behind THE LIMIT", bench.matches(), 0);
        bench.limit(2);
        due("within THE LIMIT", bench.matches(), 1);
        bench.text("sun");
        due("another text", bench.matches(), 0);
        bench.text();
        due("an empty text", bench.matches(), 0);
        bench.query("!sun");
        due("! of an empty text", bench.matches(), 1);
        due("! of a text", Bench.of("sun", "!sun").matches(), 0);
    }

    // Promises 8 to 12

    private static void words() {
        Bench bench = Bench.of(SUN, SUN_QUERY);
        int[][] due = {{0, 3, 0, 0, 0, 3}, {4, 7, 1, 0, 1, 3}, {11, 18, 2, 0, 0, 3}, {20, 24, 3, 1, 0, 4},
            {25, 27, 4, 1, 1, 2}, {28, 31, 5, 1, 0, 3}, {36, 39, 16, 2, 1, 3}, {43, 46, 17, 2, 1, 3},
            {51, 55, 18, 2, 0, 4}, {61, 63, 29, 3, 0, 2}, {64, 67, 30, 3, 1, 3}};
        for (int k = 0; k < due.length; k++) {
            for (int what = 0; what < 6; what++) {
                due("word(" + k + ", " + what + ")", bench.word(k, what), due[k][what]);
            }
            due("word(" + k + ", 6)", bench.word(k, 6), BAD);
            due("word(" + k + ", -1)", bench.word(k, -1), BAD);
        }
        for (int what = -1; what <= 6; what++) {
            due("word(11, " + what + ")", bench.word(11, what), BAD);
            due("word(-1, " + what + ")", bench.word(-1, what), BAD);
            for (int far : Bench.FAR) {
                due("word(" + far + ", " + what + ")", bench.word(far, what), BAD);
            }
        }
        for (int far : Bench.FAR) {
            due("word(0, " + far + ")", bench.word(0, far), BAD);
            due("word(10, " + far + ")", bench.word(10, far), BAD);
        }
    }

    /** "0 the first byte of its first sign, 1 behind the last byte of its last one", with tags around and within. */
    private static void wordBytes() {
        Bench bench = Bench.ofText("<b>a</b> <i>b</i>c d<b></b>");
        due("first bytes", bench.words(0), "3 12 19");
        due("behind the last bytes", bench.words(1), "4 18 20");
        due("letters", bench.words(5), "1 2 1");
        bench = Bench.ofText("&lt;ab&gt; " + "z".repeat(989));
        due("first bytes", bench.words(0), "4 11");
        due("behind the last bytes", bench.words(1), "6 1000");
        due("letters", bench.words(5), "2 989");
        bench = Bench.of("sun sun", "sun");
        bench.limit(1);
        due("MARKED, behind THE LIMIT", bench.words(4), "1 0");
        due("word(1, 0) behind THE LIMIT", bench.word(1, 0), 4);
        due("word(1, 2) behind THE LIMIT", bench.word(1, 2), 1);
        due("letter(1, 2) behind THE LIMIT", bench.letter(1, 2), 'n');
        bench = Bench.of("a ".repeat(300), "a");
        due("word(299, 0)", bench.word(299, 0), 598);
        due("word(299, 4)", bench.word(299, 4), 1);
        due("word(300, 0)", bench.word(300, 0), BAD);
    }

    private static void letters() {
        Bench bench = Bench.ofText("A<b>b</b>Z9 x&amp;y");
        due("letters", bench.words(), "abz9 x y");
        int[] lengths = {4, 1, 1, 0, 0};
        for (int k = 0; k < 5; k++) {
            due("letter(" + k + ", -1)", bench.letter(k, -1), BAD);
            for (int i = lengths[k]; i < lengths[k] + 5; i++) {
                due("letter(" + k + ", " + i + ")", bench.letter(k, i), BAD);
            }
        }
        due("letter(0, 0)", bench.letter(0, 0), 'a');
        due("letter(0, 3)", bench.letter(0, 3), '9');
        due("letter(1, 0)", bench.letter(1, 0), 'x');
        due("letter(2, 0)", bench.letter(2, 0), 'y');
        due("letter(-1, 0)", bench.letter(-1, 0), BAD);
        due("letter(-1, -1)", bench.letter(-1, -1), BAD);
        for (int far : Bench.FAR) {
            due("letter(" + far + ", 0)", bench.letter(far, 0), BAD);
            due("letter(0, " + far + ")", bench.letter(0, far), BAD);
            due("letter(2, " + far + ")", bench.letter(2, far), BAD);
            due("letter(" + far + ", " + far + ")", bench.letter(far, far), BAD);
        }
        bench = Bench.ofText("a".repeat(999) + "B");
        due("letter(0, 999)", bench.letter(0, 999), 'b');
        due("letter(0, 1000)", bench.letter(0, 1000), BAD);
    }

    private static void sentences() {
        Bench bench = Bench.of(SUN, SUN_QUERY);
        int[][] due = {{0, 3, 280, 0, 19}, {3, 3, 280, 20, 32}, {6, 3, 701, 36, 56}, {9, 2, 296, 61, 67}};
        for (int k = 0; k < due.length; k++) {
            for (int what = 0; what < 5; what++) {
                due("sentence(" + k + ", " + what + ")", bench.sentence(k, what), due[k][what]);
            }
            due("sentence(" + k + ", 5)", bench.sentence(k, 5), BAD);
            due("sentence(" + k + ", -1)", bench.sentence(k, -1), BAD);
        }
        for (int what = -1; what <= 5; what++) {
            due("sentence(4, " + what + ")", bench.sentence(4, what), BAD);
            due("sentence(-1, " + what + ")", bench.sentence(-1, what), BAD);
            for (int far : Bench.FAR) {
                due("sentence(" + far + ", " + what + ")", bench.sentence(far, what), BAD);
            }
        }
        for (int far : Bench.FAR) {
            due("sentence(0, " + far + ")", bench.sentence(0, far), BAD);
        }
        bench = Bench.of("a. ".repeat(300), "a");
        due("sentence(299, 0)", bench.sentence(299, 0), 299);
        due("sentence(299, 1)", bench.sentence(299, 1), 1);
        due("sentence(299, 4)", bench.sentence(299, 4), 899);
        due("sentence(300, 0)", bench.sentence(300, 0), BAD);
    }

    private static void leaves() {
        Bench bench = Bench.of("a b a c b", "\"a b\"/1 | c* & !d | \"b\" | \"d a\"");
        int[][] due = {{2, 1, 1, 1, 2, 333}, {1, 0, 1, 1, 1, 500}, {1, 0, 0, 0, 0, 1000}, {1, 0, 1, 1, 2, 333},
            {2, 0, 0, 0, 0, 1000}};
        for (int k = 0; k < due.length; k++) {
            for (int what = 0; what < 6; what++) {
                due("leaf(" + k + ", " + what + ")", bench.leaf(k, what), due[k][what]);
            }
            due("leaf(" + k + ", 6)", bench.leaf(k, 6), BAD);
            due("leaf(" + k + ", -1)", bench.leaf(k, -1), BAD);
        }
        for (int what = -1; what <= 6; what++) {
            due("leaf(5, " + what + ")", bench.leaf(5, what), BAD);
            due("leaf(-1, " + what + ")", bench.leaf(-1, what), BAD);
            for (int far : Bench.FAR) {
                due("leaf(" + far + ", " + what + ")", bench.leaf(far, what), BAD);
            }
        }
        for (int far : Bench.FAR) {
            due("leaf(0, " + far + ")", bench.leaf(0, far), BAD);
        }
        bench = Bench.of("l", "a|b|c|d|e|f|g|h|i|j|k|l");
        due("leaf(11, 4)", bench.leaf(11, 4), 1);
        due("leaf(12, 4)", bench.leaf(12, 4), BAD);
        due("TRUE, not LIT", Bench.of("a b", "a & c | b").leaves(2), "1 0 1");
        due("LIT", Bench.of("a b", "a & c | b").leaves(3), "0 0 1");
    }

    private static void places() {
        Bench bench = Bench.of(SUN, SUN_QUERY);
        due("places", bench.places(), "1-1 4-4 6-7 10-10");
        due("place(0, 0)", bench.place(0, 0), 1);
        due("place(2, 0)", bench.place(2, 0), 6);
        due("place(2, 1)", bench.place(2, 1), 7);
        due("place(3, 1)", bench.place(3, 1), 10);
        for (int k = 0; k < 4; k++) {
            due("place(" + k + ", 2)", bench.place(k, 2), BAD);
            due("place(" + k + ", -1)", bench.place(k, -1), BAD);
        }
        for (int what = -1; what <= 2; what++) {
            due("place(4, " + what + ")", bench.place(4, what), BAD);
            due("place(-1, " + what + ")", bench.place(-1, what), BAD);
            for (int far : Bench.FAR) {
                due("place(" + far + ", " + what + ")", bench.place(far, what), BAD);
            }
        }
        for (int far : Bench.FAR) {
            due("place(0, " + far + ")", bench.place(0, far), BAD);
        }
        bench.query("nothing");
        due("place(0, 0) of none", bench.place(0, 0), BAD);
        due("place(0, 1) of none", bench.place(0, 1), BAD);
    }

    // Promises 13 and 14

    /** "PASSAGES are chosen: how many. BAD: n is not 1 .. 9". */
    private static void passages() {
        Bench bench = Bench.of("sea. sun. sea. sun sun. sun. cat. sun.", "sun");
        due("passages(1)", bench.passages(1), 1);
        due("it", bench.passages(), "3-3");
        due("passages(2)", bench.passages(2), 2);
        due("they", bench.passages(), "1-1 3-3");
        due("passages(3)", bench.passages(3), 2);
        due("they", bench.passages(), "1-1 3-4");
        due("passages(9)", bench.passages(9), 3);
        due("they", bench.passages(), "1-1 3-4 6-6");
        due("passages(0)", bench.passages(0), BAD);
        due("passages(10)", bench.passages(10), BAD);
        due("passages(-1)", bench.passages(-1), BAD);
        for (int n : Bench.FAR) {
            due("passages(" + n + ")", bench.passages(n), BAD);
        }
        due("a wrong one changes nothing", bench.passages(), "1-1 3-4 6-6");
        due("passages(1) again", bench.passages(1), 1);
        due("the others are gone", bench.passages(), "3-3");
    }

    private static void passageAnswers() {
        Bench bench = Bench.of("sea. sun. sea. sun sun. sun. cat. sun.", "sun");
        due("passage(0, 0) of none", bench.passage(0, 0), BAD);
        bench.passages(9);
        due("passage(0, 0)", bench.passage(0, 0), 1);
        due("passage(0, 1)", bench.passage(0, 1), 1);
        due("passage(1, 0)", bench.passage(1, 0), 3);
        due("passage(1, 1)", bench.passage(1, 1), 4);
        due("passage(2, 0)", bench.passage(2, 0), 6);
        due("passage(2, 1)", bench.passage(2, 1), 6);
        for (int what = -1; what <= 2; what++) {
            due("passage(3, " + what + ")", bench.passage(3, what), BAD);
            due("passage(-1, " + what + ")", bench.passage(-1, what), BAD);
            for (int far : Bench.FAR) {
                due("passage(" + far + ", " + what + ")", bench.passage(far, what), BAD);
            }
        }
        for (int k = 0; k < 3; k++) {
            due("passage(" + k + ", 2)", bench.passage(k, 2), BAD);
            due("passage(" + k + ", -1)", bench.passage(k, -1), BAD);
        }
        for (int far : Bench.FAR) {
            due("passage(0, " + far + ")", bench.passage(0, far), BAD);
        }
        bench.passages(1);
        due("passage(1, 0) of one", bench.passage(1, 0), BAD);
        due("passage(1, 1) of one", bench.passage(1, 1), BAD);
        bench = Bench.of("a. x. ".repeat(9), "a");
        bench.passages(9);
        due("passage(8, 0)", bench.passage(8, 0), 16);
        due("passage(8, 1)", bench.passage(8, 1), 16);
        due("passage(9, 0)", bench.passage(9, 0), BAD);
    }

    // Promise 15

    /** "All of THE TEXT (whole), or the PASSAGES, are PUT OUT: how many bytes". */
    private static void prints() {
        Bench bench = Bench.of(SUN, SUN_QUERY);
        String whole = "The [sun] <b>s</b>et. Sand [at] sea! <p>[Sea ]<i>[sun]</i> sets.</p> No [cat]";
        due("print(true)", bench.print(true), whole.length());
        due("whole", bench.printed(), whole);
        due("print(false) without PASSAGES", bench.print(false), 0);
        due("put out", bench.count(5), 0);
        bench.passages(1);
        String best = "<p>[Sea ]<i>[sun]</i> sets.</p>";
        due("print(false)", bench.print(false), best.length());
        due("the best", bench.printed(), best);
        bench.passages(2);
        due("two", bench.some(), best + " No [cat]");
        due("whole again", bench.whole(), whole);
        due("PASSAGES stay", bench.passages(), "2-3");
        bench.limit(300);
        due("print(false) when PASSAGES are gone", bench.print(false), 0);
    }

    private static void printsOfNothing() {
        Bench bench = new Bench();
        bench.query("!a");
        due("print(true) of an empty text", bench.print(true), 0);
        due("print(false) of an empty text", bench.print(false), 0);
        bench.passages(3);
        due("print(false) of an empty text", bench.print(false), 0);
        bench.text("a");
        due("print(true)", bench.print(true), 1);
        due("print(false) without PASSAGES", bench.print(false), 0);
        bench.text();
        due("print(true) of an empty text again", bench.print(true), 0);
        due("printed(0)", bench.printed(0), BAD);
        bench.text(" <b></b> ");
        due("a text without words", bench.whole(), " <b></b> ");
        due("the same as PASSAGES", bench.passages(1), 0);
        due("print(false)", bench.print(false), 0);
    }

    // Promise 16

    /** "Byte i of what was put out latest (nothing else changes it); BAD: none such". */
    private static void printedBytes() {
        Bench bench = Bench.of("sun. sea.", "sun");
        due("print(true)", bench.print(true), 11);
        due("printed(0)", bench.printed(0), '[');
        due("printed(10)", bench.printed(10), '.');
        due("printed(11)", bench.printed(11), BAD);
        due("printed(-1)", bench.printed(-1), BAD);
        for (int far : Bench.FAR) {
            due("printed(" + far + ")", bench.printed(far), BAD);
        }
        bench.passages(1);
        due("print(false)", bench.print(false), 6);
        due("printed(5)", bench.printed(5), '.');
        due("printed(6)", bench.printed(6), BAD);
        due("printed", bench.printed(), "[sun].");
        bench.text("~");
        due("print(true)", bench.print(true), 1);
        due("printed(0)", bench.printed(0), '~');
        due("printed(1)", bench.printed(1), BAD);
        bench = Bench.of("<b>a</b>".repeat(125), "a*");
        due("a long one", bench.print(true), 1250);
        due("printed(1249)", bench.printed(1249), '>');
        due("printed(1250)", bench.printed(1250), BAD);
        bench = Bench.of("a-".repeat(300), "a");
        due("300 marks", bench.print(true), 1200);
        due("printed(1199)", bench.printed(1199), '-');
    }

    private static void printedStays() {
        Bench bench = Bench.of("sun. sea.", "sun");
        bench.print(true);
        String want = "[sun]. sea.";
        bench.feed(BLANKS, BLANKS, BLANKS, BLANKS, BLANKS);
        due("behind feed", bench.printed(), want);
        bench.cut(0);
        due("behind cut", bench.printed(), want);
        bench.passages(1);
        due("behind passages", bench.printed(), want);
        bench.limit(0);
        due("behind limit", bench.printed(), want);
        bench.query("sea");
        due("behind query", bench.printed(), want);
        bench.query("(");
        due("behind a wrong query", bench.printed(), want);
        bench.text("other words");
        due("behind text", bench.printed(), want);
        bench.text("<");
        due("behind a wrong text", bench.printed(), want);
        bench.text();
        due("behind an empty text", bench.printed(), want);
        due("count(5)", bench.count(5), 11);
        bench.print(false);
        due("behind print", bench.printed(), "");
    }

    // Promise 17

    private static void counts() {
        Bench bench = Bench.of("sun. sea sun. cat", "sun | \"sea sun\" | dog");
        bench.print(true);
        bench.limit(3);
        bench.passages(9);
        bench.feed(0, 0, 0, 0, 0);
        int[] due = {4, 3, 2, 3, 1, 21, 1, 17, 20};
        for (int what = 0; what < due.length; what++) {
            due("count(" + what + ")", bench.count(what), due[what]);
        }
        due("count(9)", bench.count(9), BAD);
        due("count(-1)", bench.count(-1), BAD);
        for (int far : Bench.FAR) {
            due("count(" + far + ")", bench.count(far), BAD);
        }
    }

    /** "6 words behind THE LIMIT". */
    private static void countBehindLimit() {
        Bench bench = Bench.ofText("a b c d");
        int[] limits = {0, 1, 3, 4, 5, 300};
        int[] due = {4, 3, 1, 0, 0, 0};
        for (int i = 0; i < limits.length; i++) {
            bench.limit(limits[i]);
            due("count(6) with limit " + limits[i], bench.count(6), due[i]);
            due("count(0) with limit " + limits[i], bench.count(0), 4);
        }
        bench.limit(2);
        bench.text("a");
        due("count(6) of one word", bench.count(6), 0);
        bench.text();
        due("count(6) of none", bench.count(6), 0);
        bench.text("a b c");
        due("count(6) of three", bench.count(6), 1);
        bench = Bench.ofText("a ".repeat(300));
        bench.limit(299);
        due("count(6) of 300", bench.count(6), 1);
    }

    private static void untilTwelve() {
        Bench.part("promise 1");
        newObjectChanges();
        newObjectAnswers();
        newObjectQuery();
        Bench.part("promise 2");
        feedOrder();
        feedBelowZero();
        feedFull();
        Bench.part("promise 3");
        cuts();
        cutToNothing();
        Bench.part("promise 4");
        textTaken();
        textEmpty();
        textFaults();
        textPassages();
        Bench.part("promise 5");
        queryTaken();
        queryFaults();
        queryPassages();
        Bench.part("promise 6");
        limits();
        limitPassages();
        Bench.part("promise 7");
        matches();
        Bench.part("promise 8");
        words();
        wordBytes();
        Bench.part("promise 9");
        letters();
        Bench.part("promise 10");
        sentences();
        Bench.part("promise 11");
        leaves();
        Bench.part("promise 12");
        places();
    }

    private static void fromThirteen() {
        Bench.part("promise 13");
        passages();
        Bench.part("promise 14");
        passageAnswers();
        Bench.part("promise 15");
        prints();
        printsOfNothing();
        Bench.part("promise 16");
        printedBytes();
        printedStays();
        Bench.part("promise 17");
        counts();
        countBehindLimit();
    }

    public static void main(String[] args) {
        Bench.begin();
        untilTwelve();
        fromThirteen();
        Bench.end();
    }
}
