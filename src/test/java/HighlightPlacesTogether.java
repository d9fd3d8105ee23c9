/** Calls together: one object used long and often, two objects, calls that only ask. */
public final class HighlightPlacesTogether {
    private static final int BAD = Bench.BAD;
    private static final String SUN = "The sun <b>s</b>et. Sand at sea! <p>Sea <i>sun</i> sets.</p> No cat";
    private static final String SUN_QUERY = "sun | \"sea sun\" & cat~";

    private static void due(String call, int got, int want) {
        Bench.due(call, got, want);
    }

    private static void due(String call, String got, String want) {
        Bench.due(call, got, want);
    }

    private static Bench halfWay() {
        Bench bench = Bench.of("sea. sun. <b>sea</b>. sun sun", "sun | \"sea sun\"");
        bench.passages(2);
        bench.print(false);
        bench.load("half a tape");
        return bench;
    }

    /** Calls that only ask change nothing: an object that was asked much answers as one that was not. */
    private static void asking() {
        Bench bench = halfWay();
        for (int k = -1; k <= 3; k++) {
            for (int what = -1; what <= 5; what++) {
                bench.word(k, what);
                bench.letter(k, what);
                bench.sentence(k, what);
                bench.leaf(k, what);
                bench.place(k, what);
                bench.passage(k, what);
                bench.count(what);
            }
            bench.matches();
            bench.printed(k);
        }
        Bench other = halfWay();
        due("put out and on THE TAPE", bench.printed() + bench.count(8), other.printed() + other.count(8));
        due("all", bench.all(), other.all());
        due("it is still the same object", bench.isRenewed() ? 1 : 0, 0);
    }

    /** One object, used again for longer and shorter texts and queries, answers as a new one does. */
    private static void usedAgain() {
        String[] texts = {SUN, "b", "<p>One. Two</p> three! four five six. seven sun", "", "sun sea sun", ". a<p>b</p>."};
        String[] queries = {SUN_QUERY, "b*", "\"one two three\"/9 | !(a & \"four five\") & (six | sun)", "!a", "sux~",
            "(a|b)&!c"};
        for (int before = 0; before < texts.length; before++) {
            for (int now = 0; now < texts.length; now++) {
                Bench bench = new Bench();
                for (int i = 0; i < 2; i++) {
                    bench.text(texts[before]);
                    bench.text("<p>x. y</p> <b>z</b> v. w<");
                    bench.query(queries[before]);
                    bench.query("a & (\"b c*\"/3 | !!!(d");
                }
                bench.text(texts[now]);
                bench.query(queries[now]);
                String about = "{" + texts[now] + "} {" + queries[now] + "} on an object that was used";
                due(about, wholeAndSome(bench), wholeAndSome(Bench.of(texts[now], queries[now])));
            }
        }
    }

    /** What a longer text or query had is not there any more behind a shorter one. */
    private static void nothingLeft() {
        Bench bench = Bench.of(SUN, SUN_QUERY);
        bench.passages(1);
        for (int i = 0; i < 2; i++) {
            bench.text(SUN);
            bench.query(SUN_QUERY);
        }
        for (int i = 0; i < 2; i++) {
            bench.text("cat");
            bench.query("cat");
        }
        for (int k = 1; k < 11; k++) {
            for (int what = 0; what < 6; what++) {
                due("word(" + k + ", " + what + ")", bench.word(k, what), BAD);
                due("sentence(" + k + ", " + what + ")", bench.sentence(k, what), BAD);
                due("leaf(" + k + ", " + what + ")", bench.leaf(k, what), BAD);
                due("place(" + k + ", " + what + ")", bench.place(k, what), BAD);
            }
            due("letter(" + k + ", 0)", bench.letter(k, 0), BAD);
            due("passage(" + k + ", 0)", bench.passage(k, 0), BAD);
        }
    }

    /** Long texts and queries one behind the other, and faults in the deep. */
    private static void longOnes() {
        Bench bench = new Bench();
        for (char c = 'a'; c <= 'f'; c++) {
            due("a long text", bench.text(("" + c).repeat(1000)), 1);
            due("letter(0, 0)", bench.letter(0, 0), c);
            due("letter(0, 999)", bench.letter(0, 999), c);
        }
        bench = new Bench();
        bench.text("a b c d e f");
        for (int i = 0; i < 6; i++) {
            due("a long query", bench.query("\"a b c d e f\"|".repeat(11) + "\"a b c d e f\""), 12);
            due("its last LEAF", bench.leaf(11, 4), 1);
            due("a wrong one", bench.query("((((((((a"), -10);
            due("a deep one", bench.query("((((((((a))))))))"), 1);
            due("a wrong one", bench.query("!!!!!!!!"), -9);
            due("a deep one", bench.query("!!!!!!!!a"), 1);
            due("matches()", bench.matches(), 1);
        }
        bench = new Bench();
        String open = "<b>".repeat(8);
        String closed = "</b>".repeat(8);
        for (int i = 0; i < 4; i++) {
            due("a text with open tags", bench.text(open), -25);
            due("a text with tags", bench.text(open + closed), 0);
            due("a text with 301 words", bench.text("a ".repeat(301)), -601);
            due("a text with 300 words", bench.text("a ".repeat(300)), 300);
        }
    }

    private static String wholeAndSome(Bench bench) {
        bench.passages(2);
        return bench.all() + bench.whole() + bench.some();
    }

    /** Two objects have nothing in common. */
    private static void twoObjects() {
        Bench one = Bench.of("sun. sea", "sun");
        one.passages(1);
        one.print(true);
        one.load("tape");
        String before = one.all() + one.printed() + one.count(8);
        Bench other = Bench.of(SUN, SUN_QUERY);
        other.limit(3);
        other.passages(4);
        other.print(false);
        due("the first one", one.all() + one.printed() + one.count(8), before);
        due("a new one's LIMIT", new Bench().limit(1), 300);
    }

    public static void main(String[] args) {
        Bench.begin();
        Bench.part("asking");
        asking();
        Bench.part("used again");
        usedAgain();
        nothingLeft();
        longOnes();
        Bench.part("two objects");
        twoObjects();
        Bench.end();
    }
}
