/** Terms, 3 PASSAGES: each sentence that names an edge has a method here that goes to that edge and beyond. */
public final class HighlightPlacesPassages {
    private static void chosen(String text, String query, int n, String want) {
        Bench.due("{" + text + "} {" + query + "} passages(" + n + ")", Bench.of(text, query).chosen(n), want);
    }

    private static void whole(String text, String query, String want) {
        Bench.due("{" + text + "} {" + query + "} print(true)", Bench.of(text, query).whole(), want);
    }

    private static void some(String text, String query, int n, String want) {
        Bench bench = Bench.of(text, query);
        bench.passages(n);
        Bench.due("{" + text + "} {" + query + "} passages(" + n + ") print(false)", bench.some(), want);
    }

    /** "Of the sentences with a SCORE above 0 the n with the greatest are chosen". */
    private static void greatest() {
        String text = "x. a. x. a a. x. a a a. x";
        chosen(text, "a", 1, "5-5");
        chosen(text, "a", 2, "3-3 5-5");
        chosen(text, "a", 3, "1-1 3-3 5-5");
        chosen(text, "a", 4, "1-1 3-3 5-5");
        chosen(text, "a", 9, "1-1 3-3 5-5");
        chosen("a a a. x. a a. x. a. x", "a", 2, "0-0 2-2");
        chosen("a. x. a x x x x x x", "a", 1, "0-0");
        chosen("a x x x x x x. x. a", "a", 1, "2-2");
        chosen("a. x. b", "a & b", 2, "0-0 2-2");
    }

    /** "(of like ones the first ones)". */
    private static void likeScores() {
        String text = "x. a. x. a. x. a";
        chosen(text, "a", 1, "1-1");
        chosen(text, "a", 2, "1-1 3-3");
        chosen(text, "a", 3, "1-1 3-3 5-5");
        chosen("a. x. a. x. a a", "a", 2, "0-0 4-4");
        chosen("a. x. a a. x. a. x. a a", "a", 3, "0-0 2-2 6-6");
        chosen("a x. x. a. x. a", "a", 2, "2-2 4-4");
        chosen("a x. x. a. x. a", "a", 3, "0-0 2-2 4-4");
        chosen("a. x. b", "a | b", 1, "0-0");
    }

    /** Nine at most, though there are more of them, and up to 300 sentences. */
    private static void nine() {
        chosen("a. x. ".repeat(12), "a", 9, "0-0 2-2 4-4 6-6 8-8 10-10 12-12 14-14 16-16");
        chosen("a. x. ".repeat(9), "a", 9, "0-0 2-2 4-4 6-6 8-8 10-10 12-12 14-14 16-16");
        chosen("a. x. ".repeat(9), "a", 8, "0-0 2-2 4-4 6-6 8-8 10-10 12-12 14-14");
        chosen("a. x. ".repeat(12) + "a a", "a", 9, "0-0 2-2 4-4 6-6 8-8 10-10 12-12 14-14 24-24");
        chosen("a. ".repeat(300), "a", 9, "0-8");
        chosen("x. ".repeat(299) + "a", "a", 9, "299-299");
    }

    /** "if none has one, sentence 0, if there is that". */
    private static void noScore() {
        chosen("a. b. c", "x", 1, "0-0");
        chosen("a. b. c", "x", 9, "0-0");
        chosen("a. b. c", "a & x", 3, "0-0");
        chosen("a. b. c", "!x", 3, "0-0");
        chosen("a", "x", 1, "0-0");
        chosen("", "x", 1, "");
        chosen("", "!x", 9, "");
        chosen(" . ! <b></b>", "x", 2, "");
        chosen("x. a. c", "a", 9, "1-1");
        chosen("a ".repeat(248) + ". a" + " x".repeat(19), "a", 9, "1-1");
        chosen("a ".repeat(300), "a", 1, "0-0");
        chosen("x. " + "b ".repeat(3) + "a ".repeat(290), "a", 1, "0-0");
        Bench bench = Bench.ofText("a. b. c");
        Bench.due("without a query", bench.chosen(2), "0-0");
    }

    /** "Chosen ones that stand next to each other are one PASSAGE; .. numbered as they stand". */
    private static void nextToEachOther() {
        chosen("a. a. x", "a", 1, "0-0");
        chosen("a. a. x", "a", 2, "0-1");
        chosen("x. a. a", "a", 2, "1-2");
        chosen("a. a. a. a", "a", 3, "0-2");
        chosen("a. a. x. a. a", "a", 4, "0-1 3-4");
        chosen("a. a. x. a. a", "a", 3, "0-1 3-3");
        chosen("a. x. a a", "a", 2, "0-0 2-2");
        chosen("a. a a. a. x. a", "a", 2, "0-1");
        chosen("a. a a a. a a. x. a", "a", 2, "1-2");
        chosen("a<p>a</p>a", "a", 3, "0-2");
        Bench bench = Bench.of("x. a. x. a a", "a");
        Bench.due("passages", bench.passages(2), 2);
        Bench.due("as they stand, not by SCORE", bench.passage(0, 0), 1);
        Bench.due("the second", bench.passage(1, 0), 3);
        Bench.due("fewer than the sentences", Bench.of("a. a. x. a", "a").passages(3), 2);
    }

    /** "around each row of signs of a place, as long as it can be within these bytes". */
    private static void marks() {
        whole("", "a", "");
        whole(" . ", "a", " . ");
        whole("a", "a", "[a]");
        whole("a", "b", "a");
        whole("a b", "a", "[a] b");
        whole("b a", "a", "b [a]");
        whole("(A), a!", "a", "([A]), [a]!");
        whole("a a", "a", "[a] [a]");
        whole("a b", "\"a b\"", "[a b]");
        whole("a b", "\"a b\"/1", "[a] [b]");
        whole("a &amp; (b) c", "\"a b\"", "[a &amp; (b]) c");
        whole("&lt;a&gt;", "a", "&lt;[a]&gt;");
        whole("a. b! c", "\"a b c\"", "[a. b! c]");
        whole("a-b", "a | b", "[a]-[b]");
        whole("a  b", "\"a b\"", "[a  b]");
        whole("a b c d", "\"a b\" & \"b c\"", "[a b c] d");
        whole("[a]", "a", "[[a]]");
        whole("a".repeat(1000), "a*", "[" + "a".repeat(1000) + "]");
        whole("a ".repeat(300), "a", "[a] ".repeat(300));
        whole("a ".repeat(300), "\"a a\"", "[" + "a ".repeat(299) + "a] ");
    }

    /** ".. and without a tag between". */
    private static void marksAndTags() {
        whole("<b>a</b>", "a", "<b>[a]</b>");
        whole("s<b>u</b>n", "sun", "[s]<b>[u]</b>[n]");
        whole("<b>su</b>n", "sun", "<b>[su]</b>[n]");
        whole("s<b></b>un", "sun", "[s]<b></b>[un]");
        whole("s<b><i>u</i></b>n x", "sun", "[s]<b><i>[u]</i></b>[n] x");
        whole("a <b>b</b>", "\"a b\"", "[a ]<b>[b]</b>");
        whole("a<b> b</b>", "\"a b\"", "[a]<b>[ b]</b>");
        whole("<b>a</b> b", "\"a b\"", "<b>[a]</b>[ b]");
        whole("a<b> </b>b", "\"a b\"", "[a]<b>[ ]</b>[b]");
        whole("a <b></b> b", "\"a b\"", "[a ]<b></b>[ b]");
        whole("a <b></b> b", "\"a b\"/1", "[a] <b></b> [b]");
        whole("a<b>.</b> b", "a | b", "[a]<b>.</b> [b]");
        whole("a<p>a</p>a", "a", "[a]<p>[a]</p>[a]");
        whole("<b>a</b>".repeat(125), "a*", "<b>[a]</b>".repeat(125));
        whole("<a>a</a>", "a", "<a>[a]</a>");
        whole("a<a></a>", "a*", "[a]<a></a>");
        whole("<a></a>a", "a", "<a></a>[a]");
    }

    /** The bytes of a PASSAGE are those of its sentences. */
    private static void bytesOfPassages() {
        some("a. x", "a", 1, "[a].");
        some("x. a", "a", 1, "[a]");
        some("x. a.  ", "a", 1, "[a].");
        some("( a ). x", "a", 1, "[a] ).");
        some("x. (a). y", "a", 1, "[a]).");
        some("a. a. x", "a", 2, "[a]. [a].");
        some("a.  -  a. x", "a", 2, "[a].  -  [a].");
        some("a &lt; ", "a", 1, "[a] &lt;");
        some("a b", "x", 1, "a b");
        some("", "x", 1, "");
    }

    /** "first, in order, the tags that are OPEN there (as < letters >)". */
    private static void openAtBegin() {
        some("<b>x. a</b>", "a", 1, "<b>[a]</b>");
        some("x. <b>a</b>", "a", 1, "<b>[a]</b>");
        some("<b><i>x. a</i></b>", "a", 1, "<b><i>[a]</i></b>");
        some("<b><i>x.</i> a</b>", "a", 1, "<b>[a]</b>");
        some("<b>x.</b> a", "a", 1, "[a]");
        some("<b></b><i>x.</i><u> a</u>", "a", 1, "<u>[a]</u>");
        some("<b>x. a</b> a", "a", 1, "<b>[a]</b> [a]");
        some("<p>x</p><p>a</p>", "a", 1, "<p>[a]</p>");
        String open = "<a><bb><ccc><dddd><eeeee><ffffff><ggggggg><hhhhhhhh>";
        String closed = "</hhhhhhhh></ggggggg></ffffff></eeeee></dddd></ccc></bb></a>";
        some(open + "x. a" + closed, "a", 1, open + "[a]" + closed);
        some(open + "x. a." + closed + " x", "a", 1, open + "[a]." + closed);
    }

    /** "then, the latest one first, what CLOSES the tags that are OPEN behind the last byte". */
    private static void openAtEnd() {
        some("a <b>a. x</b>", "a", 1, "[a] <b>[a].</b>");
        some("a <b><i>a. x</i></b>", "a", 1, "[a] <b><i>[a].</i></b>");
        some("<b>a</b>. x", "a", 1, "<b>[a]</b>.");
        some("<b>a.</b> x", "a", 1, "<b>[a].</b>");
        some("<b>a. </b>", "a", 1, "<b>[a].</b>");
        some("a.<b> x</b>", "a", 1, "[a].");
        some("a. <b>x</b>", "a", 1, "[a].");
        some("<b>x. a <i>a</i> <u>a. x</u></b>", "a", 1, "<b>[a] <i>[a]</i> <u>[a].</u></b>");
        some("<b>x. a</b> <i>a. x</i>", "a", 1, "<b>[a]</b> <i>[a].</i>");
        some("<b><i>x. a</i> a. x</b>", "a", 1, "<b><i>[a]</i> [a].</b>");
        whole("<b>a</b> <i></i>", "a", "<b>[a]</b> <i></i>");
    }

    /** A tag within a place, in a PASSAGE, and a place that goes beyond its bytes. */
    private static void placesInPassages() {
        some("x. s<b>u</b>n", "sun", 1, "[s]<b>[u]</b>[n]");
        some("x. <b>s<i>u</i></b>n. x", "sun", 1, "<b>[s]<i>[u]</i></b>[n].");
        some("x. <b>a <i>b</i>. x</b>", "\"a b\"", 1, "<b>[a ]<i>[b]</i>.</b>");
        some("c a. b x. x", "\"a b\" | c", 1, "[c] [a.]");
        some("c a. (b x. x", "\"a b\" | c", 1, "[c] [a. (]");
        some("x a. b c c", "\"a b\" & c", 1, "[b] [c] [c]");
        some("c<b> a. b</b> x. x", "\"a b\" | c", 1, "[c]<b> [a.]</b>");
        some("c a.<b> b</b> x. x", "\"a b\" | c", 1, "[c] [a.]");
        some("x. c a. c b. x", "\"a c b\" | c", 2, "[c] [a. c b].");
        some("c c x a. b. c", "\"a b c\" & c", 1, "[c] [c] x [a.]");
        some("x a. b. c c c", "\"a b\" & \"b c\"", 1, "[b.]");
    }

    /** "PASSAGES are put out one behind the other, with ... between two". */
    private static void dots() {
        some("a. x. a", "a", 1, "[a].");
        some("a. x. a", "a", 2, "[a]....[a]");
        some("a x. x. a x", "a", 2, "[a] x....[a] x");
        some("a! x. a. x. a?", "a", 3, "[a]!...[a]....[a]?");
        some("<b><i>a. x</i>. a</b>", "a", 2, "<b><i>[a].</i></b>...<b>[a]</b>");
        some("<b>a</b> x! x. <i>a</i>", "a", 2, "<b>[a]</b> x!...<i>[a]</i>");
        some("<p>a</p><p>x</p><p>a</p>", "a", 2, "<p>[a]</p>...<p>[a]</p>");
        String open = "<abcdefgh>".repeat(8);
        String closed = "</abcdefgh>".repeat(8);
        String one = open + "[a]." + closed;
        some(open + "a. x. ".repeat(9) + closed, "a", 9, (one + "...").repeat(8) + one);
        some(open + "a. x. ".repeat(9) + closed, "a", 8, (one + "...").repeat(7) + one);
        some("a. x. ".repeat(9), "a", 9, "[a]....".repeat(8) + "[a].");
    }

    /** About the longest that can be put out: nine PASSAGES of many places, in eight tags of eight letters. */
    private static void longest() {
        String open = "<abcdefgh>".repeat(8);
        String closed = "</abcdefgh>".repeat(8);
        String sentence = "a-".repeat(31) + "a. ";
        String one = open + "[a]-".repeat(31) + "[a]." + closed;
        String text = open + (sentence + "x. ").repeat(9) + closed;
        some(text, "a", 9, (one + "...").repeat(8) + one);
        some(text, "a", 1, one);
        Bench bench = Bench.of(text, "a");
        bench.passages(9);
        Bench.due("its bytes", bench.print(false), 2688);
        Bench.due("the last one", bench.printed(2687), '>');
        Bench.due("behind it", bench.printed(2688), Bench.BAD);
    }

    public static void main(String[] args) {
        Bench.begin();
        Bench.part("chosen sentences");
        greatest();
        likeScores();
        nine();
        noScore();
        nextToEachOther();
        Bench.part("PUT OUT, marks");
        marks();
        marksAndTags();
        Bench.part("PUT OUT, passages");
        bytesOfPassages();
        openAtBegin();
        openAtEnd();
        placesInPassages();
        dots();
        longest();
        Bench.end();
    }
}
