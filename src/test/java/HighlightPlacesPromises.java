/** The promises of the document one by one: ordinary inputs, the edges it names, and wrong inputs. */
public final class HighlightPlacesPromises {
    private static int wrong = 0;
    private static String part = "";

    private static final int BAD = HighlightPlaces.BAD;
    private static final int FULL = HighlightPlaces.FULL;
    private static final String SUN = "The sun <b>s</b>et. Sand at sea! <p>Sea <i>sun</i> sets.</p> No cat";
    private static final int[] EDGES = {Integer.MIN_VALUE, -2, -1, 1000000, Integer.MAX_VALUE};

    private static void due(String call, int got, int want) {
        if (got != want) {
            wrong++;
            System.out.println(part + ": " + call + " answered " + got + ", due is " + want);
        }
    }

    private static void due(String call, String got, String want) {
        if (!got.equals(want)) {
            wrong++;
            System.out.println(part + ": " + call + " gave " + got + ", due is " + want);
        }
    }

    private static int four(String bytes, int from) {
        int number = 0;
        for (int i = from; i < from + 4; i++) {
            number = number << 8 | (i < bytes.length() ? bytes.charAt(i) : ' ');
        }
        return number;
    }

    private static void load(HighlightPlaces x, String bytes) {
        for (int i = 0; i < bytes.length(); i += 20) {
            x.feed(four(bytes, i), four(bytes, i + 4), four(bytes, i + 8), four(bytes, i + 12), four(bytes, i + 16));
        }
        x.cut(bytes.length());
    }

    private static int text(HighlightPlaces x, String bytes) {
        load(x, bytes);
        return x.text();
    }

    private static int query(HighlightPlaces x, String bytes) {
        load(x, bytes);
        return x.query();
    }

    private static HighlightPlaces held(String text, String query) {
        HighlightPlaces x = new HighlightPlaces();
        if (text(x, text) < 0 || query(x, query) < 0) {
            wrong++;
            System.out.println(part + ": " + text + " or " + query + " was refused");
        }
        return x;
    }

    private static String printed(HighlightPlaces x) {
        StringBuilder out = new StringBuilder();
        for (int i = 0; i < x.count(5); i++) {
            out.append((char) x.printed(i));
        }
        return out.toString();
    }

    private static String whole(HighlightPlaces x) {
        due("print(true)", x.print(true), x.count(5));
        return printed(x);
    }

    private static String some(HighlightPlaces x) {
        due("print(false)", x.print(false), x.count(5));
        return printed(x);
    }

    /** The places as first-last, first-last .. */
    private static String places(HighlightPlaces x) {
        StringBuilder out = new StringBuilder();
        for (int k = 0; k < x.count(2); k++) {
            out.append(k > 0 ? " " : "").append(x.place(k, 0)).append('-').append(x.place(k, 1));
        }
        return out.toString();
    }

    private static String lit(HighlightPlaces x) {
        StringBuilder out = new StringBuilder();
        for (int k = 0; k < x.count(3); k++) {
            out.append(x.leaf(k, 3));
        }
        return out.toString();
    }

    private static String letters(HighlightPlaces x, int k) {
        StringBuilder out = new StringBuilder();
        for (int i = 0; i < x.word(k, 5); i++) {
            out.append((char) x.letter(k, i));
        }
        return out.toString();
    }

    private static void promise1() {
        HighlightPlaces x = new HighlightPlaces();
        for (int what = 0; what <= 8; what++) {
            due("count(" + what + ")", x.count(what), 0);
        }
        due("matches()", x.matches(), 0);
        due("limit(300)", x.limit(300), 300);
        due("word(0, 0)", x.word(0, 0), BAD);
        due("sentence(0, 0)", x.sentence(0, 0), BAD);
        due("leaf(0, 0)", x.leaf(0, 0), BAD);
        due("place(0, 0)", x.place(0, 0), BAD);
        due("passage(0, 0)", x.passage(0, 0), BAD);
        due("printed(0)", x.printed(0), BAD);
        due("passages(1)", x.passages(1), 0);
        due("print(true)", x.print(true), 0);
        due("print(false)", x.print(false), 0);
        due("text", text(x, "a b"), 2);
        due("matches() without a query", x.matches(), 0);
        due("text()", x.text(), 0);
        due("query()", x.query(), -1);
    }

    private static void promise2() {
        HighlightPlaces x = new HighlightPlaces();
        due("feed", x.feed(0x61626364, 0x65666768, 0x696a6b6c, 0x6d6e6f70, 0x71727374), 20);
        due("text()", x.text(), 1);
        due("order", letters(x, 0), "abcdefghijklmnopqrst");
        for (int i = 1; i <= 50; i++) {
            due("feed " + i, x.feed(0x20202020, 0x20202020, 0x20202020, 0x20202020, 0x20202020), 20 * i);
        }
        due("feed 51", x.feed(0, 0, 0, 0, 0), FULL);
        due("count(8)", x.count(8), 1000);
        due("cut(981)", x.cut(981), 1000);
        due("feed at 981", x.feed(0, 0, 0, 0, 0), FULL);
        due("cut(980)", x.cut(980), 981);
        due("feed at 980", x.feed(0x20202020, 0x20202020, 0x20202020, 0x20202020, 0x20202020), 1000);
        due("text()", x.text(), 0);
        due("count(7)", x.count(7), 1000);
        due("feed below 0", x.feed(-1, 0, 0, 0, 0), 20);
        due("a byte 255", x.text(), -1);
    }

    private static void promise3() {
        HighlightPlaces x = new HighlightPlaces();
        due("cut(0)", x.cut(0), 0);
        due("cut(1)", x.cut(1), BAD);
        due("cut(-1)", x.cut(-1), BAD);
        x.feed(0x61626364, 0x65666768, 0x696a6b6c, 0x6d6e6f70, 0x71727374);
        due("cut(21)", x.cut(21), BAD);
        due("cut(-1)", x.cut(-1), BAD);
        due("cut(20)", x.cut(20), 20);
        due("cut(3)", x.cut(3), 20);
        due("cut(4)", x.cut(4), BAD);
        due("count(8)", x.count(8), 3);
        due("text()", x.text(), 1);
        due("letters", letters(x, 0), "abc");
        for (int n : EDGES) {
            due("cut(" + n + ")", x.cut(n), BAD);
        }
    }

    private static void promise4() {
        HighlightPlaces x = new HighlightPlaces();
        String[] faults = {"a<b", "a<b>c", "</b>", "<b></i>", "a&b", "&lt", "< b>", "<>", "</>", "a\tb", "\u00e9",
            "<B>", "<abcdefghi></abcdefghi>", "a\u007f", "<b></bb>", "<bb></b>", "<b/></b>", "<b><i></b></i>", "&LT;",
            "&ampx;", "a & b", "<b></b></b>", "x<b\t>", "a<p>", "ab<", "ab&"};
        int[] due = {1, 5, 0, 3, 1, 0, 0, 0, 0, 1, 0, 0, 0, 1, 3, 4, 0, 6, 0, 0, 2, 7, 1, 4, 2, 2};
        due("a text", text(x, "old text"), 2);
        for (int i = 0; i < faults.length; i++) {
            due("text " + faults[i], text(x, faults[i]), -1 - due[i]);
            due("the text before", letters(x, 0) + letters(x, 1), "oldtext");
            due("the tape", x.count(8), 0);
        }
        due("names", text(x, "&lt;&gt;&amp;"), 0);
        due("a > alone", text(x, "a>b"), 2);
        due("bytes 32 .. 126", text(x, " ~!\"#$%'()*+,-./:;=>?@[]^_`{|}"), 0);
        due("eight letters", text(x, "<abcdefgh></abcdefgh>"), 0);
        String eight = "<b><b><b><b><b><b><b><b>";
        String closed = "</b></b></b></b></b></b></b></b>";
        due("eight open", text(x, eight + "a" + closed), 1);
        due("eight open twice", text(x, eight + "a" + closed + eight + closed), 1);
        due("nine open", text(x, eight + "a<b></b>" + closed), -1 - 25);
        due("300 words", text(x, "a ".repeat(300)), 300);
        due("301 words", text(x, "a ".repeat(301)), -1 - 600);
        due("301 words, a fault ahead", text(x, "a ".repeat(300) + "& a"), -1 - 600);
        due("301 words, a fault behind", text(x, "a ".repeat(300) + "<b>a&"), -1 - 603);
        due("a word of 1000", text(x, "a".repeat(1000)), 1);
        due("its letters", x.word(0, 5), 1000);
        due("z and Z", text(x, "<z></z><az>zZ</az>"), 1);
        due("its letters", letters(x, 0), "zz");
        due("empty", x.text(), 0);
        due("words of an empty one", x.count(0), 0);
        x = held("sun. sea.", "sun");
        x.passages(1);
        due("a wrong text", text(x, "<"), -1);
        due("passages are gone", x.count(4), 0);
        due("the match stays", x.matches(), 1);
        x.passages(1);
        due("a right text", text(x, "sea"), 1);
        due("passages are gone", x.count(4), 0);
        due("the match is made anew", x.matches(), 0);
    }

    private static void promise5() {
        HighlightPlaces x = new HighlightPlaces();
        String[] faults = {"", "   ", "a b", "a |", "a | ", "| a", "a & & b", "(a", "(a ", "a)", "!", "()", "a *", "a~*",
            "a*b", "\"", "\"a", "\"a ", "\"\"", "\" \"", "\"a|b\"", "\"a*b\"", "\"a b\" /3", "\"a b\"/", "\"a b\"/ 3",
            "\"a b\"/x", "\"a b\"/12", "\"a\"b", "a\tb", "a&", "a!b", "a(b)", "*", "a/3", "\"a b c d e f g\"",
            "abcdefghijklmnopqrstu", "\"abcdefghijklmnopqrstu\"", "(a))", "!)", "a|)", "(a|)", "a\u00e9", "\"a ~\"", "a<b"};
        int[] due = {0, 3, 2, 3, 4, 0, 4, 2, 3, 1, 1, 1, 2, 2, 2, 1, 2, 3, 1, 2, 2, 3, 6, 6, 6, 6, 7, 3, 1, 2, 1, 1, 0,
            1, 13, 20, 21, 3, 1, 2, 3, 1, 3, 1};
        text(x, "old");
        due("a query", query(x, "old|new"), 2);
        for (int i = 0; i < faults.length; i++) {
            due("query " + faults[i], query(x, faults[i]), -1 - due[i]);
            due("the query before", x.count(3), 2);
            due("its match", x.matches(), 1);
            due("the tape", x.count(8), 0);
        }
        due("eight (", query(x, "((((((((a))))))))"), 1);
        due("nine (", query(x, "(((((((((a)))))))))"), -1 - 8);
        due("eight !", query(x, "!!!!!!!!a"), 1);
        due("nine !", query(x, "! !!!!!!!!a"), -1 - 9);
        due("! and (", query(x, "!(!(!(!(a))))"), 1);
        due("! and ( nine", query(x, "!(!(!(!(!a))))"), -1 - 8);
        due("behind ! comes fresh room", query(x, "!!!!!!!!a & !!!!!!!!b | ((((((((c))))))))"), 3);
        due("12 leaves", query(x, "a|b|c|d|e|f|g|h|i|j|k|l"), 12);
        due("13 leaves", query(x, "a|b|c|d|e|f|g|h|i|j|k|l|m"), -1 - 24);
        due("13 leaves, a phrase", query(x, "a|b|c|d|e|f|g|h|i|j|k|l| \"m\""), -1 - 25);
        due("12 leaves, each eight deep", query(x, "!!!!!!!(a)|".repeat(11) + "a"), 12);
        due("many nodes", query(x, "((((((((a))))))))|".repeat(11) + "((((((((a))))))))"), 12);
        due("many nodes and more open", query(x, "((((((((a))))))))|".repeat(12) + "((((((((a))))))))"), -1 - 224);
        due("20 letters and *", query(x, "abcdefghijklmnopqrst*"), 1);
        due("blanks", query(x, "  (  a  &  !  b  )  |  \"  c   d  \"/3  "), 3);
        due("the room", x.leaf(2, 1), 3);
        due("nothing between", query(x, "(a&!b)|\"c d\"/3"), 3);
        due("six terms", query(x, "\"a b c d e f\""), 1);
        due("its terms", x.leaf(0, 0), 6);
        due("figures", query(x, "007 & A1~"), 2);
        x = held("sun. sea.", "sun");
        x.passages(1);
        due("a wrong query", query(x, "("), -2);
        due("passages are gone", x.count(4), 0);
        x.passages(1);
        due("a right query", query(x, "sea"), 1);
        due("passages are gone", x.count(4), 0);
    }

    private static void promise6() {
        HighlightPlaces x = held("sun sea sun", "\"sun sea\" | sun");
        due("at first", x.limit(2), 300);
        due("places", places(x), "0-1");
        due("words behind", x.count(6), 1);
        due("what it was", x.limit(1), 2);
        due("places", places(x), "0-0");
        due("the phrase", x.leaf(0, 2), 0);
        due("what it was", x.limit(0), 1);
        due("matches() of none", x.matches(), 0);
        due("sentence 0 of all words", x.sentence(0, 1), 3);
        due("limit(-1)", x.limit(-1), BAD);
        due("limit(301)", x.limit(301), BAD);
        due("limit(300)", x.limit(300), 0);
        due("places", places(x), "0-1 2-2");
        for (int n : EDGES) {
            due("limit(" + n + ")", x.limit(n), BAD);
        }
        x.passages(2);
        due("limit(301)", x.limit(301), BAD);
        due("a wrong one changes nothing", x.count(4), 1);
        due("limit(300)", x.limit(300), 300);
        due("passages are gone", x.count(4), 0);
    }

    private static void matched(String text, String query, int want) {
        due(text + " ? " + query, held(text, query).matches(), want);
    }

    private static void promise7() {
        matched("sun sea", "sun & sea", 1);
        matched("sun sea", "sun & cat", 0);
        matched("sun sea", "cat | sea", 1);
        matched("sun sea", "cat | dog", 0);
        matched("sun sea", "!cat", 1);
        matched("sun sea", "!sun", 0);
        matched("sun sea", "!!sun", 1);
        matched("sun sea", "cat & dog | sun", 1);
        matched("sun sea", "cat & (dog | sun)", 0);
        matched("sun sea", "!cat & sun", 1);
        matched("sun sea", "!(cat | sun)", 0);
        matched("", "!cat", 1);
        matched("", "cat", 0);
        matched("s<b>u</b>n", "sun", 1);
        matched("s<p>u</p>n", "sun", 0);
        matched("SUN", "sUn", 1);
        matched("suns", "sun", 0);
        matched("suns", "sun*", 1);
        matched("sun", "sun*", 1);
        matched("su", "sun*", 0);
        String[] near = {"sun", "son", "suns", "ssun", "su", "un", "sn", "sxun", "sux"};
        for (String word : near) {
            matched(word, "sun~", 1);
        }
        String[] far = {"snu", "s", "sunset", "nus", "sxxn", "xsunx", "ux"};
        for (String word : far) {
            matched(word, "sun~", 0);
        }
        matched("b", "a~", 1);
        matched("bc", "a~", 0);
        matched("one two three", "\"one two\"", 1);
        matched("one two three", "\"one three\"", 0);
        matched("one two three", "\"one three\"/1", 1);
        matched("one two three", "\"two one\"/9", 0);
        matched("one two three", "\"one one\"/9", 0);
        matched("one two three four", "\"one four\"/1", 0);
        matched("one two three four", "\"one four\"/2", 1);
        matched("one. two", "\"one two\"", 1);
        matched("one<p>two</p>", "\"one two\"/9", 0);
        matched("one<p></p>two<p>three</p>", "\"one two* three\"/9", 0);
        matched("a b x c d y e", "\"a b c d e\"/2", 1);
        matched("a b x c d y e", "\"a b c d e\"/1", 0);
        matched("a<p>b</p>", "\"a b\"/9 | \"a\"", 1);
    }

    private static void promise8() {
        HighlightPlaces x = held(SUN, "sun | \"sea sun\" & cat~");
        int[][] due = {{0, 3, 0, 0, 0, 3}, {4, 7, 1, 0, 1, 3}, {11, 18, 2, 0, 0, 3}, {20, 24, 3, 1, 0, 4},
            {25, 27, 4, 1, 1, 2}, {28, 31, 5, 1, 0, 3}, {36, 39, 16, 2, 1, 3}, {43, 46, 17, 2, 1, 3},
            {51, 55, 18, 2, 0, 4}, {61, 63, 29, 3, 0, 2}, {64, 67, 30, 3, 1, 3}};
        for (int k = 0; k < due.length; k++) {
            for (int what = 0; what < 6; what++) {
                due("word(" + k + ", " + what + ")", x.word(k, what), due[k][what]);
            }
        }
        due("word(0, 6)", x.word(0, 6), BAD);
        due("word(0, -1)", x.word(0, -1), BAD);
        due("word(11, 0)", x.word(11, 0), BAD);
        for (int edge : EDGES) {
            for (int what = 0; what < 6; what++) {
                due("word(" + edge + ", " + what + ")", x.word(edge, what), BAD);
            }
            due("word(0, " + edge + ")", x.word(0, edge), BAD);
        }
        x = held("<p>a</p><p></p>b<pp>c</pp> d", "a");
        due("a break ahead of word 0", x.word(0, 2), 0);
        due("some breaks between", x.word(1, 2), 11);
        due("pp is no break", x.count(0), 3);
        due("its end", x.word(1, 1), 21);
        due("no break between", x.word(2, 2), 12);
        x = held("sun sun", "sun");
        x.limit(1);
        due("behind THE LIMIT", x.word(1, 4), 0);
        due("its start", x.word(1, 0), 4);
    }

    private static void promise9() {
        HighlightPlaces x = held("A<b>b</b>Z9 x&amp;y", "a");
        due("letters", letters(x, 0), "abz9");
        due("letters", letters(x, 1), "x");
        due("letters", letters(x, 2), "y");
        due("letter(0, 4)", x.letter(0, 4), BAD);
        due("letter(1, 1)", x.letter(1, 1), BAD);
        due("letter(3, 0)", x.letter(3, 0), BAD);
        for (int edge : EDGES) {
            due("letter(" + edge + ", 0)", x.letter(edge, 0), BAD);
            due("letter(0, " + edge + ")", x.letter(0, edge), BAD);
        }
    }

    /** The sentences as first word+words:first byte-behind the last byte .. */
    private static String sentences(String text) {
        HighlightPlaces x = held(text, "a");
        StringBuilder out = new StringBuilder();
        for (int k = 0; k < x.count(1); k++) {
            out.append(k > 0 ? " " : "").append(x.sentence(k, 0)).append('+').append(x.sentence(k, 1));
            out.append(':').append(x.sentence(k, 3)).append('-').append(x.sentence(k, 4));
        }
        return out.toString();
    }

    private static void promise10() {
        due("sentences", sentences(SUN), "0+3:0-19 3+3:20-32 6+3:36-56 9+2:61-67");
        due("no words", sentences(" . ! "), "");
        due("a stop without a blank", sentences("a.b"), "0+2:0-3");
        due("a stop and a blank", sentences("a. b"), "0+1:0-2 1+1:3-4");
        due("? and !", sentences("a? b! c"), "0+1:0-2 1+1:3-5 2+1:6-7");
        due("a tag between stop and blank", sentences("a.<b> b</b>"), "0+1:0-2 1+1:6-7");
        due("a sign between stop and blank", sentences("a.) b"), "0+2:0-5");
        due("two stops", sentences("a.. b"), "0+1:0-3 1+1:4-5");
        due("signs behind the stop", sentences("a. (b)"), "0+1:0-4 1+1:4-6");
        due("a break", sentences("a<p>b</p>c"), "0+1:0-1 1+1:4-5 2+1:9-10");
        due("a name at the end", sentences("a &lt; "), "0+1:0-6");
        due("signs ahead", sentences(" (. a. "), "0+1:4-6");
        due("a tag at the end", sentences("a <b>)</b> "), "0+1:0-6");
        due("a stop in a word's tags", sentences("a. <b>b</b> c"), "0+1:0-2 1+2:6-13");
        HighlightPlaces x = held("sun sun sun sun cat. Sun. sea", "sun | cat");
        due("at most three", x.sentence(0, 2), 16 * (166 * 3 + 500) / 21);
        due("one", x.sentence(1, 2), 16 * 166 / 17);
        due("none", x.sentence(2, 2), 0);
        x = held("one two three one two four", "\"one two\"/0 & \"two three one\"/0");
        due("of phrases the first words", x.sentence(0, 2), 848);
        x = held("sun. sea", "sun & cat | !cat & sea");
        due("a true leaf that is not lit", x.sentence(0, 2), 0);
        due("a lit one", x.sentence(1, 2), 16 * 500 / 17);
        due("sentence(0, 5)", x.sentence(0, 5), BAD);
        due("sentence(0, -1)", x.sentence(0, -1), BAD);
        due("sentence(2, 0)", x.sentence(2, 0), BAD);
        for (int edge : EDGES) {
            for (int what = 0; what < 5; what++) {
                due("sentence(" + edge + ", " + what + ")", x.sentence(edge, what), BAD);
            }
            due("sentence(0, " + edge + ")", x.sentence(0, edge), BAD);
        }
        x = held("a ".repeat(300), "a");
        due("a score cut off to 0", x.sentence(0, 2), 16 * 3 * 3 / 316);
    }

    private static void promise11() {
        HighlightPlaces x = held("a b a c b", "\"a b\"/1 | c* & !d | \"b\" | \"d a\"");
        int[][] due = {{2, 1, 1, 1, 2, 333}, {1, 0, 1, 1, 1, 500}, {1, 0, 0, 0, 0, 1000}, {1, 0, 1, 1, 2, 333},
            {2, 0, 0, 0, 0, 1000}};
        for (int k = 0; k < due.length; k++) {
            for (int what = 0; what < 6; what++) {
                due("leaf(" + k + ", " + what + ")", x.leaf(k, what), due[k][what]);
            }
        }
        due("leaf(0, 6)", x.leaf(0, 6), BAD);
        due("leaf(5, 0)", x.leaf(5, 0), BAD);
        for (int edge : EDGES) {
            for (int what = 0; what < 6; what++) {
                due("leaf(" + edge + ", " + what + ")", x.leaf(edge, what), BAD);
            }
            due("leaf(0, " + edge + ")", x.leaf(0, edge), BAD);
        }
        due("not true", lit(held("a b", "a & c")), "00");
        due("any", lit(held("a b", "a | c | b")), "101");
        due("a part that is not true", lit(held("a b", "a & c | b")), "001");
        due("of ! nothing", lit(held("a b", "!c & !!a & !(!b) & a")), "0001");
        due("within ( )", lit(held("a b", "(a | (b & c) | (c | b))")), "10001");
        due("true, not lit", held("a b", "a & c | b").leaf(0, 2), 1);
    }

    private static void placed(String text, String query, String want) {
        due(text + " ? " + query, places(held(text, query)), want);
    }

    private static void promise12() {
        placed(SUN, "sun | \"sea sun\" & cat~", "1-1 4-4 6-7 10-10");
        placed("one two three one two four", "\"one two\" & \"two three one\"", "0-4");
        placed("a b", "a | b", "0-0 1-1");
        placed("a b", "\"a b\"/1", "0-0 1-1");
        placed("a b", "\"a b\"", "0-1");
        placed("a b a b", "\"a b\"", "0-1 2-3");
        placed("a a a", "\"a a\"", "0-2");
        placed("a b c", "\"a b\" | \"b c\"/1", "0-1 2-2");
        placed("a x b x b x x b", "\"a b\"/3", "0-0 2-2 4-4");
        placed("a b b c", "\"a b c\"/1", "0-0 1-1 2-2 3-3");
        placed("c a b b c b", "\"a b c\"/1", "1-1 2-2 3-3 4-4");
        placed("a a b", "\"a b\"/1", "0-0 1-1 2-2");
        placed("a x a x x b", "\"a b\"/2", "2-2 5-5");
        placed("a x a x x b", "\"a b\"/1", "");
        placed("a x a x b", "\"a b\"/2", "2-2 4-4");
        placed("a b a", "\"a* a~ a\"/0", "0-2");
        placed("a b", "a & c", "");
        placed("a b", "!c & b", "1-1");
        placed("sun sea", "\"sun\"/5", "0-0");
        HighlightPlaces x = held("a b", "a | b");
        due("place(0, 2)", x.place(0, 2), BAD);
        due("place(0, -1)", x.place(0, -1), BAD);
        due("place(2, 0)", x.place(2, 0), BAD);
        for (int edge : EDGES) {
            due("place(" + edge + ", 0)", x.place(edge, 0), BAD);
            due("place(" + edge + ", 1)", x.place(edge, 1), BAD);
            due("place(0, " + edge + ")", x.place(0, edge), BAD);
        }
    }

    private static String chosen(HighlightPlaces x, int n) {
        due("passages(" + n + ")", x.passages(n), x.count(4));
        StringBuilder out = new StringBuilder();
        for (int k = 0; k < x.count(4); k++) {
            out.append(k > 0 ? " " : "").append(x.passage(k, 0)).append('-').append(x.passage(k, 1));
        }
        return out.toString();
    }

    private static void promise13and14() {
        HighlightPlaces x = held("sea. sun. sea. sun sun. sun. cat. sun.", "sun");
        due("the best", chosen(x, 1), "3-3");
        due("of like ones the first", chosen(x, 2), "1-1 3-3");
        due("next to each other", chosen(x, 3), "1-1 3-4");
        due("four", chosen(x, 4), "1-1 3-4 6-6");
        due("no more than there are", chosen(x, 9), "1-1 3-4 6-6");
        due("passages(0)", x.passages(0), BAD);
        due("passages(10)", x.passages(10), BAD);
        due("they stay", x.count(4), 3);
        for (int edge : EDGES) {
            due("passages(" + edge + ")", x.passages(edge), BAD);
            due("passage(" + edge + ", 0)", x.passage(edge, 0), BAD);
            due("passage(" + edge + ", 1)", x.passage(edge, 1), BAD);
            due("passage(0, " + edge + ")", x.passage(0, edge), BAD);
        }
        due("passage(3, 0)", x.passage(3, 0), BAD);
        due("passage(0, 2)", x.passage(0, 2), BAD);
        x = held("a ".repeat(248) + ". " + "a" + " x".repeat(19), "a");
        due("a score cut off to 0", x.sentence(0, 2), 0);
        due("a score of 1", x.sentence(1, 2), 1);
        due("above 0", chosen(x, 9), "1-1");
        due("without a score", chosen(held("a. b. c", "d"), 3), "0-0");
        due("a query that is true without a score", chosen(held("a. b. c", "!d"), 3), "0-0");
        due("without sentences", chosen(held(" ... ", "d"), 3), "");
        due("nine", chosen(held("a. b. ".repeat(12), "a"), 9), "0-0 2-2 4-4 6-6 8-8 10-10 12-12 14-14 16-16");
    }

    private static void promise15() {
        HighlightPlaces x = held(SUN, "sun | \"sea sun\" & cat~");
        due("whole", whole(x),
            "The [sun] <b>s</b>et. Sand [at] sea! <p>[Sea ]<i>[sun]</i> sets.</p> No [cat]");
        due("no passages", some(x), "");
        x.passages(1);
        due("a passage in a tag", some(x), "<p>[Sea ]<i>[sun]</i> sets.</p>");
        x.passages(2);
        due("two", some(x), "<p>[Sea ]<i>[sun]</i> sets.</p> No [cat]");
        x = held("<b><i>sun. sea</i>. sun</b>", "sun");
        x.passages(1);
        due("open and closed in order", some(x), "<b><i>[sun].</i></b>");
        x.passages(2);
        due("dots between", some(x), "<b><i>[sun].</i></b>...<b>[sun]</b>");
        x = held("s<b>u<i>n</i></b> &lt;sun", "sun");
        due("tags within a word", whole(x), "[s]<b>[u]<i>[n]</i></b> &lt;[sun]");
        x = held("a &amp; (b) c", "\"a b\"");
        due("all signs of a place", whole(x), "[a &amp; (b]) c");
        x = held("cat sun. sea sun. dog", "\"sun sea\" | cat");
        due("a place across sentences", whole(x), "[cat] [sun. sea] sun. dog");
        x.passages(1);
        due("its part in the passage", some(x), "[cat] [sun.]");
        x = held("x sun. sea cat cat", "\"sun sea\" & cat");
        due("scores", x.sentence(1, 2) > x.sentence(0, 2) ? 1 : 0, 1);
        x.passages(1);
        due("its part behind", some(x), "[sea] [cat] [cat]");
        x = held("sun<p>sun</p>", "sun");
        due("next to each other", whole(x), "[sun]<p>[sun]</p>");
        x = held("<b>a</b>", "b");
        due("without marks", whole(x), "<b>a</b>");
        x.passages(1);
        due("sentence 0 without marks", some(x), "<b>a</b>");
        x = held("<abcdefgh>".repeat(8) + "a. ".repeat(3) + "</abcdefgh>".repeat(8), "!b");
        x.passages(1);
        due("eight tags", some(x), "<abcdefgh>".repeat(8) + "a." + "</abcdefgh>".repeat(8));
        x = held("<abcdefgh>".repeat(8) + "a. b. ".repeat(9) + "</abcdefgh>".repeat(8), "a");
        x.passages(9);
        String one = "<abcdefgh>".repeat(8) + "[a]." + "</abcdefgh>".repeat(8);
        due("nine passages in eight tags", some(x), (one + "...").repeat(8) + one);
        x = held("<b>a</b>".repeat(125), "a*");
        due("one word of many rows", whole(x), "<b>[a]</b>".repeat(125));
    }

    /** One object, used again for longer and shorter texts and queries, answers as a new one does. */
    private static void usedAgain() {
        String[] texts = {SUN, "b", "<p>One. Two</p> three! four five six. seven sun", "", "sun sea sun", ". a<p>b</p>."};
        String[] queries = {"sun | \"sea sun\" & cat~", "b*", "\"one two three\"/9 | !(a & \"four five\") & (six | sun)",
            "!a", "zz~", "(a|b)&!c"};
        HighlightPlaces x = new HighlightPlaces();
        for (int i = 0; i < 36; i++) {
            String text = texts[i * 5 % 6];
            String query = queries[i / 6];
            text(x, "<p>x. y</p> z<");
            query(x, "a & (\"b c*\"/3 | !d");
            text(x, text);
            query(x, query);
            due("again " + text + " ? " + query, all(x), all(held(text, query)));
        }
    }

    private static String all(HighlightPlaces x) {
        StringBuilder out = new StringBuilder();
        for (int k = 0; k < x.count(0); k++) {
            out.append(letters(x, k));
            for (int what = 0; what < 6; what++) {
                out.append(' ').append(x.word(k, what));
            }
        }
        for (int k = 0; k < x.count(1); k++) {
            for (int what = 0; what < 5; what++) {
                out.append(' ').append(x.sentence(k, what));
            }
        }
        for (int k = 0; k < x.count(3); k++) {
            for (int what = 0; what < 6; what++) {
                out.append(' ').append(x.leaf(k, what));
            }
        }
        out.append(' ').append(x.matches()).append(places(x)).append(chosen(x, 2)).append(whole(x)).append(some(x));
        for (int what = 0; what < 9; what++) {
            out.append(' ').append(x.count(what));
        }
        return out.toString();
    }

    private static void promise16() {
        HighlightPlaces x = held("sun. sea.", "sun");
        due("print(true)", x.print(true), 11);
        due("printed", printed(x), "[sun]. sea.");
        text(x, "other");
        query(x, "more");
        x.limit(3);
        x.passages(1);
        due("nothing else changes it", printed(x), "[sun]. sea.");
        due("printed(10)", x.printed(10), '.');
        due("printed(11)", x.printed(11), BAD);
        for (int edge : EDGES) {
            due("printed(" + edge + ")", x.printed(edge), BAD);
        }
        due("print(false)", x.print(false), 5);
        due("printed", printed(x), "other");
        due("printed(5)", x.printed(5), BAD);
        text(x, "");
        due("print(true)", x.print(true), 0);
        due("printed(0)", x.printed(0), BAD);
    }

    private static void promise17() {
        HighlightPlaces x = held("sun. sea sun. cat", "sun | \"sea sun\" | dog");
        x.passages(9);
        x.print(true);
        x.limit(3);
        x.passages(9);
        x.feed(0, 0, 0, 0, 0);
        int[] due = {4, 3, 2, 3, 1, 21, 1, 17, 20};
        for (int what = 0; what < due.length; what++) {
            due("count(" + what + ")", x.count(what), due[what]);
        }
        due("count(9)", x.count(9), BAD);
        for (int edge : EDGES) {
            due("count(" + edge + ")", x.count(edge), BAD);
        }
        x.limit(4);
        due("none behind THE LIMIT", x.count(6), 0);
        x.limit(300);
        due("none behind THE LIMIT", x.count(6), 0);
        x.limit(0);
        due("all behind THE LIMIT", x.count(6), 4);
        due("no places", x.count(2), 0);
    }

    public static void main(String[] args) {
        part = "promise 1";
        promise1();
        part = "promise 2";
        promise2();
        part = "promise 3";
        promise3();
        part = "promise 4";
        promise4();
        part = "promise 5";
        promise5();
        part = "promise 6";
        promise6();
        part = "promise 7";
        promise7();
        part = "promise 8";
        promise8();
        part = "promise 9";
        promise9();
        part = "promise 10";
        promise10();
        part = "promise 11";
        promise11();
        part = "promise 12";
        promise12();
        part = "promises 13 and 14";
        promise13and14();
        part = "promise 15";
        promise15();
        part = "used again";
        usedAgain();
        part = "promise 16";
        promise16();
        part = "promise 17";
        promise17();
        System.out.println(wrong == 0 ? "all answers are as due" : wrong + " answers are not as due");
        if (wrong != 0) {
            System.exit(1);
        }
    }
}
