/** Terms, 2 THE QUERY: each sentence that names an edge has a method here that goes to that edge and beyond. */
public final class HighlightPlacesQuery {
    private static final String TWENTY = "abcdefghijklmnopqrst";
    private static final String TWELVE = "a|b|c|d|e|f|g|h|i|j|k|l";

    /** A query without a fault: how many LEAVES it has. */
    private static void right(String bytes, int leaves) {
        Bench.due("query {" + bytes + "}", new Bench().query(bytes), leaves);
    }

    /** A query with a fault, which is at a place. */
    private static void wrong(String bytes, int place) {
        Bench.due("query {" + bytes + "}", new Bench().query(bytes), -1 - place);
    }

    private static boolean isWordSign(int c) {
        return "abcdefghijklmnopqrstuvwxyzABCDEFGHIJKLMNOPQRSTUVWXYZ0123456789".indexOf(c) >= 0;
    }

    private static void matched(String text, String query, int want) {
        Bench.due("{" + text + "} {" + query + "} matches()", Bench.of(text, query).matches(), want);
    }

    private static void placed(String text, String query, String want) {
        Bench.due("{" + text + "} {" + query + "} places", Bench.of(text, query).places(), want);
    }

    private static void counted(String text, String query, String want) {
        Bench.due("{" + text + "} {" + query + "} COUNTS", Bench.of(text, query).leaves(4), want);
    }

    private static void lit(String text, String query, String want) {
        Bench.due("{" + text + "} {" + query + "} LIT", Bench.of(text, query).leaves(3), want);
    }

    /** "Blanks (32) count for nothing but where it says so". */
    private static void blanks() {
        right("a", 1);
        right("   a   ", 1);
        right("a|b&c", 3);
        right("  a  |  b  &  c  ", 3);
        right("!(a)", 1);
        right(" !  (  a  ) ", 1);
        right("! ! ( ( a ) ) ", 1);
        right("\"a b\"", 1);
        right("  \"  a    b  \"/2  |  c", 2);
        wrong("a b", 2);
        wrong("a  (b)", 3);
        wrong("a  *", 3);
        wrong("a  ~", 3);
        wrong("\"a *\"", 3);
        wrong("\"a b\" /3", 6);
        wrong("\"a b\"/ 3", 6);
        wrong("a\t|b", 1);
        Bench.due("a blank more is no TERM more", leafRow("\"  a   b  \"", 0), "2");
    }

    private static String leafRow(String query, int what) {
        Bench bench = new Bench();
        bench.query(query);
        return bench.leaves(what);
    }

    /** "(Letters A .. Z are a .. z.)". */
    private static void capitals() {
        matched("sun", "SUN", 1);
        matched("SUN", "sun", 1);
        matched("aZ", "Az", 1);
        matched("ZOO", "zO*", 1);
        matched("ZOO", "Zop~", 1);
        matched("Sun SEA", "\"sUn seA\"", 1);
    }

    /** "its first byte that cannot stand where it does": every byte where a ONE is due. */
    private static void everyByteAsOne() {
        for (int c = 0; c < 256; c++) {
            boolean endsTooSoon = c == '!' || c == '(' || c == '"' || c == ' ';
            int due = isWordSign(c) ? 1 : endsTooSoon ? -2 : -1;
            Bench.due("a query of byte " + c, new Bench().query("" + (char) c), due);
            int dueBehind = isWordSign(c) ? 2 : endsTooSoon ? -4 : -3;
            Bench.due("a query of a, |, byte " + c, new Bench().query("a|" + (char) c), dueBehind);
        }
    }

    /** Every byte behind a TERM, and behind a phrase. */
    private static void everyByteBehindOne() {
        for (int c = 0; c < 256; c++) {
            boolean part = isWordSign(c) || c == '*' || c == '~' || c == ' ';
            int due = part ? 1 : c == '|' || c == '&' ? -3 : -2;
            Bench.due("a query of a, byte " + c, new Bench().query("a" + (char) c), due);
            int duePhrase = c == ' ' ? 1 : c == '|' || c == '&' || c == '/' ? -5 : -4;
            Bench.due("a query of a phrase, byte " + c, new Bench().query("\"a\"" + (char) c), duePhrase);
            boolean joint = c == '|' || c == '&';
            int dueGroup = c == ' ' ? 1 : joint ? -5 : -4;
            Bench.due("a query of ( ), byte " + c, new Bench().query("(a)" + (char) c), dueGroup);
        }
    }

    /** Every byte within a phrase, and as its ROOM. */
    private static void everyByteInPhrase() {
        for (int c = 0; c < 256; c++) {
            boolean part = isWordSign(c) || c == '*' || c == '~' || c == ' ';
            Bench.due("a query of \"a, byte " + c, new Bench().query("\"a" + (char) c + "\""), part ? 1 : c == '"' ? -4 : -3);
            boolean begins = isWordSign(c) || c == ' ';
            Bench.due("a query of \", byte " + c + ", a", new Bench().query("\"" + (char) c + "a\""), begins ? 1 : -2);
            boolean figure = c >= '0' && c <= '9';
            Bench.due("a query with ROOM of byte " + c, new Bench().query("\"a\"/" + (char) c), figure ? 1 : -5);
        }
    }

    /** "ANY: ALL | ALL | ..  ALL: ONE & ONE & ..  ONE: ! ONE, or ( ANY ), or a LEAF". */
    private static void joints() {
        wrong("| a", 0);
        wrong("& a", 0);
        wrong("a & & b", 4);
        wrong("a | | b", 4);
        wrong("a & | b", 4);
        wrong("a | & b", 4);
        wrong("a ! b", 2);
        wrong("a (b)", 2);
        wrong("a \"b\"", 2);
        wrong("\"a\"b", 3);
        wrong("\"a\"\"b\"", 3);
        wrong("(a)b", 3);
        wrong("(a)(b)", 3);
        wrong("()", 1);
        wrong("( )", 2);
        wrong("(a|)", 3);
        wrong("(a&)", 3);
        wrong("(!)", 2);
        wrong("!)", 1);
        wrong("!|a", 1);
        wrong("!&a", 1);
        wrong("a)", 1);
        wrong("(a))", 3);
        wrong(")", 0);
        wrong("a|)", 2);
        right("!a & !!b | (!(c | d) & e)", 5);
    }

    /** ".. or its length, if it ends too soon". */
    private static void endsTooSoon() {
        String[] tooSoon = {"", " ", "   ", "!", "!!", "! ", "(", "( ", "(a", "(a ", "((a)", "(a|", "(a&", "a|", "a &", "a | ",
            "a & b |", "a|!", "a&(", "\"", "\" ", "\"a", "\"a ", "\"a*", "\"a b", "\"a b  ", "\"a\"/", "(\"a\"/",
            "\"a b c d e f", "\"a b c d e f ", "!(a", "(!a", "((((((((a", "!!!!!!!!", "((((((((", "a|\""};
        for (String query : tooSoon) {
            wrong(query, query.length());
        }
        wrong(TWELVE + "|", 24);
        wrong(TWELVE + "&(", 25);
        wrong("\"" + " ".repeat(999), 1000);
        wrong(" ".repeat(1000), 1000);
        right(" ".repeat(999) + "a", 1);
        right("(a" + " ".repeat(997) + ")", 1);
    }

    /** "TERM: 1 to 20 letters and figures, then, right behind, perhaps * or ~"; "the 21st byte of a TERM". */
    private static void termLengths() {
        right("a", 1);
        right("7", 1);
        right(TWENTY.substring(1), 1);
        right(TWENTY, 1);
        wrong(TWENTY + "u", 20);
        wrong(TWENTY + "7", 20);
        wrong(TWENTY + "uv", 20);
        wrong("  " + TWENTY + "u", 22);
        wrong("a|" + TWENTY + "u*", 22);
        wrong("\"" + TWENTY + "u\"", 21);
        wrong("\"a " + TWENTY + "u\"", 23);
        right("\"" + TWENTY + " " + TWENTY + "\"", 1);
        right("01234567890123456789", 1);
        wrong("012345678901234567890", 20);
        right(TWENTY + "*", 1);
        right(TWENTY + "~", 1);
        right("\"" + TWENTY + "* " + TWENTY + "~\"", 1);
        wrong(TWENTY + "*u", 21);
        wrong("*", 0);
        wrong("~a", 0);
        wrong("a**", 2);
        wrong("a*~", 2);
        wrong("a~*", 2);
        wrong("a~~", 2);
        wrong("a*b", 2);
        wrong("\"a*b\"", 3);
        wrong("\"a~*\"", 3);
        matched(TWENTY, TWENTY, 1);
        matched(TWENTY + "u", TWENTY, 0);
        matched(TWENTY + "u", TWENTY + "*", 1);
        matched(TWENTY + "u", TWENTY + "~", 1);
        matched(TWENTY + "uv", TWENTY + "~", 0);
        matched("x" + TWENTY.substring(1), TWENTY, 0);
        matched(TWENTY.substring(0, 19) + "x", TWENTY, 0);
    }

    /** "TERMS (1 to 6, a blank or more between two; blanks may stand at both ends)"; "of a seventh TERM". */
    private static void phraseTerms() {
        wrong("\"\"", 1);
        wrong("\"  \"", 3);
        Bench.due("TERMS", leafRow("\"a\"|\"a b\"|\"a b c d e\"|\"a b c d e f\"|a", 0), "1 2 5 6 1");
        wrong("\"a b c d e f g\"", 13);
        wrong("\"a b c d e f   g\"", 15);
        wrong("\" a b c d e f g h\"", 14);
        wrong("\"a b c d e f 7*\"", 13);
        wrong("\"a b c d e f *\"", 13);
        right("\"  a b c d e f  \"", 1);
        right("\"" + (TWENTY + " ").repeat(6) + "\"/9", 1);
        wrong("\"" + (TWENTY + " ").repeat(7) + "\"/9", 127);
        wrong("\"a|b\"", 2);
        wrong("\"a&b\"", 2);
        wrong("\"(a)\"", 1);
        wrong("\"!a\"", 1);
        wrong("\"a/2\"", 2);
        right("\"a b c d e f\" & ".repeat(11) + "\"a b c d e f\"", 12);
        Bench.due("all TERMS there can be", leafRow("\"a b c d e f\"|".repeat(11) + "\"a b c d e f\"", 0),
            "6 6 6 6 6 6 6 6 6 6 6 6");
        Bench bench = Bench.of("a b c d e fx", "\"a b c d e f*\"|".repeat(11) + "\"a b c d ex~ f~\"");
        Bench.due("they are all found", bench.leaves(4), "1 1 1 1 1 1 1 1 1 1 1 1");
    }

    /** ".. right behind this, perhaps, / and a figure: its ROOM, 0 without". */
    private static void rooms() {
        Bench.due("ROOM", leafRow("\"a b\"|\"a b\"/0|\"a b\"/1|\"a b\"/9|\"a\"/5|a", 1), "0 0 1 9 5 0");
        Bench.due("each figure", leafRow("\"a\"/2|\"a\"/3|\"a\"/4|\"a\"/6|\"a\"/7|\"a\"/8", 1), "2 3 4 6 7 8");
        wrong("\"a b\"/x", 6);
        wrong("\"a b\"/|c", 6);
        wrong("\"a b\"//3", 6);
        wrong("\"a b\"/12", 7);
        wrong("\"a b\"/3a", 7);
        wrong("\"a b\"/3/3", 7);
        wrong("a/3", 1);
        wrong("a*/3", 2);
        wrong("(a)/3", 3);
        right("\"a b\"/3|c", 2);
        right("(\"a b\"/3)", 1);
    }

    /** "! and ( are eight at most within each other"; "the ! or ( that is the ninth". */
    private static void depths() {
        right("(((((((a)))))))", 1);
        right("((((((((a))))))))", 1);
        wrong("(((((((((a)))))))))", 8);
        right("!!!!!!!!a", 1);
        wrong("!!!!!!!!!a", 8);
        wrong("! !!!!!!!!a", 9);
        right("!(!(!(!(a))))", 1);
        wrong("!(!(!(!(!a))))", 8);
        wrong("!(!(!(!((a)))))", 8);
        wrong("((((((((!a))))))))", 8);
        wrong("!!!!!!!!(a)", 8);
        wrong("a & ((((((((a | (b)))))))))", 16);
        right("((((((((a|b))))))))", 2);
        right("((((((((a))))))))|((((((((b))))))))", 2);
        right("!!!!!!!!a & !!!!!!!!b | ((((((((c))))))))", 3);
        right("(((((((!a & !b | (c) & (d | e))))))))", 5);
        wrong("(((((((!a & !b | (c) & (d | (e)))))))))", 28);
        wrong("(((((((!a & !b | (c) & (d | !e))))))))", 28);
        right("(((((((!a))))))) | !!!!!!!!b", 2);
        right("!(!(!(!(a)))) & !(!(!(!(a))))", 2);
        wrong("!!!!!!!!a & !!!!!!!!!b", 20);
        wrong("((((((((a))))))))|(((((((((b", 26);
        right("((((((((a))))))))|".repeat(11) + "((((((((a))))))))", 12);
        right("!!!!!!!!a|".repeat(11) + "!!!!!!!!a", 12);
        right("!(!(!(!(a))))&".repeat(11) + "!(!(!(!(a))))", 12);
    }

    /** "A query has 12 LEAVES at most, numbered as they come"; "the first byte of the 13th LEAF". */
    private static void leaves() {
        right(TWELVE.substring(2), 11);
        right(TWELVE, 12);
        wrong(TWELVE + "|m", 24);
        wrong(TWELVE + "&m", 24);
        wrong(TWELVE + "| mno*", 25);
        wrong(TWELVE + "| \"m\"", 25);
        wrong(TWELVE + "| !m", 26);
        wrong(TWELVE + "| (m)", 26);
        wrong(TWELVE + "| 7", 25);
        wrong("((((((((a))))))))|".repeat(12) + "((((((((a))))))))", 224);
        wrong("(" + TWELVE + "|m)", 25);
        right("(" + TWELVE.replace('|', '&') + ")", 12);
        right("a|".repeat(11) + "\"b c\"/3", 12);
        Bench.due("as they come", leafRow("\"a b\"/1 | (\"a\"/2 & !(\"a b c\"/3 | a)) | \"a\"/4", 1), "1 2 3 0 4");
        Bench bench = Bench.of("c x l", TWELVE);
        Bench.due("the one that fits", bench.leaves(4), "0 0 1 0 0 0 0 0 0 0 0 1");
    }

    /** The first of two faults. */
    private static void firstFault() {
        wrong("a b *", 2);
        wrong("a) (", 1);
        wrong("(((((((((", 8);
        wrong("!(!(!(!(!", 8);
        wrong("\"a *\" )", 3);
        wrong(TWELVE + "|m|)", 24);
        wrong("\"a b c d e f " + TWENTY + "u\"", 13);
        wrong("\u00e9", 0);
        wrong("a\u00e9(", 1);
    }

    /** "A word FITS a TERM, if its letters are these; with *: if it begins with these". */
    private static void fits() {
        matched("sun", "sun", 1);
        matched("suns", "sun", 0);
        matched("su", "sun", 0);
        matched("sux", "sun", 0);
        matched("xun", "sun", 0);
        matched("s<b>u</b>n", "sun", 1);
        matched("s<p>u</p>n", "sun", 0);
        matched("s un", "sun", 0);
        matched("2", "2", 1);
        matched("sun", "sun*", 1);
        matched("sunset", "sun*", 1);
        matched("su", "sun*", 0);
        matched("asun", "sun*", 0);
        matched("sux", "sun*", 0);
        matched("suxset", "sun*", 0);
        matched("a", "a*", 1);
        matched("b" + "a".repeat(999), "ba*", 1);
    }

    /** "with ~: if they become these by at most one letter changed, left out, or put in". */
    private static void fitsWithAnError() {
        matched("sun", "sun~", 1);
        String[] changed = {"xun", "sxn", "sux", "7un"};
        String[] putIn = {"xsun", "sxun", "suxn", "sunx", "ssun", "sunn"};
        String[] leftOut = {"un", "sn", "su"};
        for (String[] near : new String[][] {changed, putIn, leftOut}) {
            for (String word : near) {
                matched(word, "sun~", 1);
                counted(word + " x " + word, "sun~", "2");
            }
        }
        String[] far = {"xxn", "xux", "sxx", "snu", "usn", "nus", "s", "u", "n", "xn", "sx", "ux", "sunxx", "xsunx", "xxsun",
            "sxuxn", "sunset", "unx", "xsu", "sxu", "nsu", "uns"};
        for (String word : far) {
            matched(word, "sun~", 0);
        }
        matched("a", "a~", 1);
        matched("b", "a~", 1);
        matched("ab", "a~", 1);
        matched("ba", "a~", 1);
        matched("bb", "a~", 0);
        matched("abc", "a~", 0);
        matched("aa", "aaa~", 1);
        matched("aaaa", "aaa~", 1);
        matched("aaaaa", "aaa~", 0);
        matched("a", "aaa~", 0);
        matched("abab", "baba~", 0);
        matched("bab", "baba~", 1);
    }

    /** "Only the first words, as many as THE LIMIT (300 at first), are looked at". */
    private static void limits() {
        Bench bench = Bench.of("a b a b a", "a & \"b a\"");
        Bench.due("all", bench.leaves(4), "3 2");
        bench.limit(5);
        Bench.due("as many as there are", bench.leaves(4), "3 2");
        bench.limit(4);
        Bench.due("one less", bench.leaves(4), "2 1");
        Bench.due("their places", bench.places(), "0-0 1-2");
        Bench.due("their marks", bench.words(4), "1 1 1 0 0");
        bench.limit(3);
        Bench.due("three", bench.leaves(4), "2 1");
        bench.limit(2);
        Bench.due("a WAY needs all its words", bench.leaves(4), "1 0");
        Bench.due("not TRUE", bench.matches(), 0);
        bench.limit(0);
        Bench.due("none", bench.leaves(4), "0 0");
        Bench.due("all the words are still there", bench.sentences(), "0+5");
        bench = Bench.of("a ".repeat(300), "a");
        Bench.due("300 at first", bench.leaves(4), "300");
        bench.limit(299);
        Bench.due("299", bench.leaves(4), "299");
        bench = Bench.of("a", "!b");
        bench.limit(0);
        Bench.due("! of what is not looked at", bench.matches(), 1);
        bench = Bench.of("b a. a", "a");
        bench.limit(2);
        Bench.due("SCOREs of the words looked at", bench.scores(), (16 * 500 / 18) + " 0");
        bench.limit(1);
        Bench.due("SCOREs of none", bench.scores(), "0 0");
        bench = Bench.of("a b b b", "a");
        bench.limit(1);
        Bench.due("SCORE of a sentence with all its words", bench.scores(), "" + 16 * 500 / 20);
    }

    /** "the last one's POSITION at most as many and ROOM more than the first one's, as the TERMS less 1 are". */
    private static void waysWithinRoom() {
        matched("a b", "\"a b\"", 1);
        matched("a x b", "\"a b\"", 0);
        matched("a b", "\"a b\"/1", 1);
        matched("a x b", "\"a b\"/1", 1);
        matched("a x x b", "\"a b\"/1", 0);
        for (int room = 0; room <= 9; room++) {
            matched("a " + "x ".repeat(room) + "b", "\"a b\"/" + room, 1);
            matched("a " + "x ".repeat(room + 1) + "b", "\"a b\"/" + room, 0);
            matched("a " + "x ".repeat(room) + "b c d e f", "\"a b c d e f\"/" + room, 1);
            matched("a " + "x ".repeat(room + 1) + "b c d e f", "\"a b c d e f\"/" + room, 0);
        }
        matched("a x b x c", "\"a b c\"/2", 1);
        matched("a x b x c", "\"a b c\"/1", 0);
        matched("a b x c d y e", "\"a b c d e\"/2", 1);
        matched("a b x c d y e", "\"a b c d e\"/1", 0);
        matched("a. b", "\"a b\"", 1);
        matched("a<b></b> b", "\"a b\"", 1);
        matched("a<p>b</p>", "\"a b\"", 0);
        matched("a<p>b</p>", "\"a b\"/9", 0);
        matched("a<p>b c d e f</p>", "\"a b c d e f\"/9", 0);
        matched("a b c d e<p>f</p>", "\"a b c d e f\"/9", 0);
        matched("a<p>a b</p>", "\"a b\"", 1);
    }

    /** "words, one for each of its TERMS, each behind the one before, that FIT these". */
    private static void waysInOrder() {
        matched("b a", "\"a b\"/9", 0);
        matched("a c b", "\"a b c\"/9", 0);
        matched("a", "\"a a\"/9", 0);
        matched("a a", "\"a a\"", 1);
        matched("a b", "\"a b c\"/9", 0);
        matched("b c", "\"a b c\"/9", 0);
        matched("ab abc", "\"a* ab*\"", 1);
        matched("ab", "\"a* ab*\"/9", 0);
        matched("sun son", "\"sin~ sin~\"", 1);
        matched("a b x b c", "\"a b c\"/2", 1);
        matched("a b x b c", "\"a b c\"/1", 0);
        matched("x a", "\"a\"", 1);
        matched("x a", "\"a\"/9", 1);
        matched("x", "\"a\"", 0);
        counted("a a b b", "\"a b\"/0 | \"a b\"/1 | \"a b\"/2", "1 2 2");
        counted("a b a b a", "\"a b a\" | \"a b a\"/2 | \"a\"", "2 2 3");
    }

    /** "A LEAF is TRUE, if some word FITS it, or there is a WAY. ALL is TRUE if all are, ANY if one is, ! ..". */
    private static void truth() {
        String[] queries = {"a", "x", "a&b", "a&x", "x&a", "x&x", "a|b", "a|x", "x|a", "x|x", "!a", "!x", "!!a", "!!x",
            "a&b&x", "a&b&a", "x|x|a", "x|x|x", "x&x|a", "a|x&x", "x&(x|a)", "(a|x)&x", "!x&a", "!a|b", "!(a|x)",
            "!(a&x)", "!a&x|b", "!(x)", "(((a)))", "\"a b\"", "\"a x\"", "!\"a x\"", "!!!!!!!!a", "!!!!!!!a", "a&!b", "a&!x",
            "!a|!b", "!a|!x", "x&a|a&x", "x&a|a&b"};
        int[] due = {1, 0, 1, 0, 0, 0, 1, 1, 1, 0, 0, 1, 1, 0,
            0, 1, 1, 0, 1, 1, 0, 0, 1, 1, 0,
            1, 1, 1, 1, 1, 0, 1, 1, 0, 0, 1,
            0, 1, 0, 1};
        for (int i = 0; i < queries.length; i++) {
            matched("a b", queries[i], due[i]);
        }
        Bench.due("TRUE LEAVES", Bench.of("a b", "a | x & \"a b\" | !\"b a\"").leaves(2), "1 0 1 0");
        matched("", "a", 0);
        matched("", "!a", 1);
        matched("", "\"a b\"", 0);
    }

    /** "LIT are: what is the whole query, if it is TRUE; .. of ! nothing". */
    private static void lights() {
        lit("a b", "a", "1");
        lit("a b", "x", "0");
        lit("a b", "a & b", "1 1");
        lit("a b", "a & x", "0 0");
        lit("a b", "a | x | b", "1 0 1");
        lit("a b", "a & x | b", "0 0 1");
        lit("a b", "b | a & x", "1 0 0");
        lit("a b", "a & b | x", "1 1 0");
        lit("a b", "(a | (b & x) | (x | b))", "1 0 0 0 1");
        lit("a b", "(a | x) & (x | b)", "1 0 0 1");
        lit("a b", "!x", "0");
        lit("a b", "!!a", "0");
        lit("a b", "!(!a)", "0");
        lit("a b", "!(!a & x) | b", "0 0 1");
        lit("a b", "a & !x", "1 0");
        lit("a b", "a & !!b", "1 0");
        lit("a b", "(a & !(x | !b)) | x", "1 0 0 0");
        lit("a b", "\"a b\" | \"b a\" | \"a\"", "1 0 1");
        lit("", "!a", "0");
        placed("a b", "!!a", "");
        placed("a b", "a & x", "");
        placed("a b", "a & x | b", "1-1");
    }

    /** "of a LIT TERM each word that FITS; of a LIT phrase with ROOM 0 for each WAY its words, and all between". */
    private static void placesOfLeaves() {
        placed("a b a", "a", "0-0 2-2");
        placed("a a", "a", "0-0 1-1");
        placed("ab x ac", "a*", "0-0 2-2");
        placed("ab x ac", "ad~", "0-0 2-2");
        placed("a b", "\"a b\"", "0-1");
        placed("a b", "\"a b\"/0", "0-1");
        placed("a b a b", "\"a b\"", "0-1 2-3");
        placed("a b c d e f", "\"a b c d e f\"", "0-5");
        placed("x a. b x", "\"a b\"", "1-2");
        placed("a b b", "\"a b\"", "0-1");
        placed("a a b", "\"a b\"", "1-2");
        placed("a", "\"a\"", "0-0");
        placed("a a", "\"a\"/3", "0-0 1-1");
    }

    /** "with other ROOM each word that is in some WAY". */
    private static void placesWithRoom() {
        placed("a b", "\"a b\"/1", "0-0 1-1");
        placed("a x b", "\"a b\"/1", "0-0 2-2");
        placed("a a b", "\"a b\"/1", "0-0 1-1 2-2");
        placed("a a b", "\"a b\"/0", "1-2");
        placed("a b b c", "\"a b c\"/1", "0-0 1-1 2-2 3-3");
        placed("c a b b c b", "\"a b c\"/1", "1-1 2-2 3-3 4-4");
        placed("a x b x b x x b", "\"a b\"/3", "0-0 2-2 4-4");
        placed("a x a x x b", "\"a b\"/2", "2-2 5-5");
        placed("a x a x x b", "\"a b\"/1", "");
        placed("a b c b c", "\"a b c\"/2", "0-0 1-1 2-2 3-3 4-4");
        placed("a c b c", "\"a b c\"/9", "0-0 2-2 3-3");
        placed("a x b b", "\"a b\"/1", "0-0 2-2");
        placed("a b c b x", "\"a b c\"/2", "0-0 1-1 2-2");
        placed("a b c b c", "\"a b c c\"/1", "0-0 1-1 2-2 4-4");
        placed("a b c b c b", "\"a b c\"/2", "0-0 1-1 2-2 3-3 4-4");
        placed("a c b x c", "\"a b c\"/2", "0-0 2-2 4-4");
        placed("x a b b x b b", "\"a b\"/3", "1-1 2-2 3-3 5-5");
        placed("b a b", "\"a b\"/9", "1-1 2-2");
        placed("a b a", "\"a b\"/9", "0-0 1-1");
    }

    /** "Places that have a word in common are one. A word of a place is MARKED. .. numbered by their words". */
    private static void placesInCommon() {
        placed("a b c", "\"a b\" & \"b c\"", "0-2");
        placed("a b c d", "\"a b\" & \"c d\"", "0-1 2-3");
        placed("a b c d", "\"c d\" & \"b c\" & \"a b\"", "0-3");
        placed("a b c", "\"a b c\" | b", "0-2");
        placed("a b c", "\"b c\" | a", "0-0 1-2");
        placed("a b c", "c | b | a", "0-0 1-1 2-2");
        placed("a a a", "\"a a\"", "0-2");
        placed("a a a a", "\"a a\" | a", "0-3");
        placed("a b c", "\"a b\" | \"b c\"/1", "0-1 2-2");
        placed("a b c", "a | a | a*", "0-0");
        Bench.due("MARKED", Bench.of("x a b x c a", "\"a b\" | c").words(4), "0 1 1 0 1 0");
        Bench.due("MARKED of a place with other ROOM", Bench.of("a x b", "\"a b\"/1").words(4), "1 0 1");
        Bench bench = Bench.of("a ".repeat(300), "a");
        Bench.due("300 places", bench.count(2), 300);
        Bench.due("the last one", bench.place(299, 0), 299);
        bench = Bench.of("a ".repeat(300), "\"a a\"");
        Bench.due("one place of 300", bench.places(), "0-299");
    }

    /** "A LEAF's COUNT is ..; its WEIGHT 1000 / (1 + COUNT)". */
    private static void countsAndWeights() {
        counted("a b a", "a", "2");
        counted("a b a", "x", "0");
        counted("a a b b", "\"a b\"/9", "2");
        counted("a b b b", "\"a b\"/9", "1");
        counted("a b", "\"a b\" & x", "1 0");
        Bench.due("WEIGHTs", Bench.of("a b b c c c d d d d d d", "a | b | c | d | x").leaves(5), "500 333 250 142 1000");
        Bench.due("the WEIGHT of 300", Bench.of("a ".repeat(300), "a").leaves(5), "3");
        Bench.due("the WEIGHT of a phrase", Bench.of("a b a b", "\"a b\" | \"b b\"").leaves(5), "333 1000");
    }

    private static void scored(String text, String query, String want) {
        Bench.due("{" + text + "} {" + query + "} SCOREs", Bench.of(text, query).scores(), want);
    }

    /** "A sentence's SCORE is 16 times the sum, over LIT LEAVES, of WEIGHT times .. (at most 3), divided by ..". */
    private static void scores() {
        scored("a", "a", "" + 16 * 500 / 17);
        scored("a a", "a", "" + 16 * 333 * 2 / 18);
        scored("a a a", "a", "" + 16 * 250 * 3 / 19);
        scored("a a a a", "a", "" + 16 * 200 * 3 / 20);
        scored("a a a a a", "a", "" + 16 * 166 * 3 / 21);
        scored("a a. a a", "a", 16 * 200 * 2 / 18 + " " + 16 * 200 * 2 / 18);
        scored("a b", "a | b", "" + 16 * 1000 / 18);
        scored("a a a a b b b b", "a | b", "" + 16 * (200 * 3 + 200 * 3) / 24);
        scored("a b", "a | x", "" + 16 * 500 / 18);
        scored("a b", "a & x | b", "" + 16 * 500 / 18);
        scored("a b", "a & x", "0");
        scored("a b", "!x", "0");
        scored("a. b. c", "a | c", 16 * 500 / 17 + " 0 " + 16 * 500 / 17);
        scored("a b a. b", "\"a b\"", 16 * 333 * 2 / 19 + " 0");
        scored("a b a b a b a b", "\"a b\"", "" + 16 * 200 * 3 / 24);
        scored("a ".repeat(248) + ". a" + " x".repeat(19), "a", "0 1");
        scored("a".repeat(1000), "a*", "" + 16 * 500 / 17);
        scored("a ".repeat(300), TWELVE.replaceAll("[b-l]", "a"), "" + 16 * 12 * 3 * 3 / 316);
        scored("a", TWELVE.replaceAll("[b-l]", "a"), "" + 16 * 12 * 500 / 17);
    }

    public static void main(String[] args) {
        Bench.begin();
        Bench.part("bytes of a query");
        blanks();
        capitals();
        everyByteAsOne();
        everyByteBehindOne();
        everyByteInPhrase();
        Bench.part("grammar");
        joints();
        endsTooSoon();
        termLengths();
        phraseTerms();
        rooms();
        depths();
        leaves();
        firstFault();
        Bench.part("FITS");
        fits();
        fitsWithAnError();
        Bench.part("THE LIMIT");
        limits();
        Bench.part("WAYS");
        waysWithinRoom();
        waysInOrder();
        Bench.part("TRUE");
        truth();
        Bench.part("LIT");
        lights();
        Bench.part("PLACES");
        placesOfLeaves();
        placesWithRoom();
        placesInCommon();
        Bench.part("COUNT, WEIGHT, SCORE");
        countsAndWeights();
        scores();
        Bench.end();
    }
}
