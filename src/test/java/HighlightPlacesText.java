/** Terms, 1 THE TEXT: each sentence that names an edge has a method here that goes to that edge and beyond. */
public final class HighlightPlacesText {
    private static final String EIGHT = "<b>".repeat(8);
    private static final String EIGHT_CLOSED = "</b>".repeat(8);

    /** A text without a fault: how many words it has. */
    private static void right(String bytes, int words) {
        Bench.due("text {" + bytes + "}", new Bench().text(bytes), words);
    }

    /** A text with a fault, which is at a place. */
    private static void wrong(String bytes, int place) {
        Bench.due("text {" + bytes + "}", new Bench().text(bytes), -1 - place);
    }

    private static boolean isWordSign(int c) {
        return "abcdefghijklmnopqrstuvwxyzABCDEFGHIJKLMNOPQRSTUVWXYZ0123456789".indexOf(c) >= 0;
    }

    /** "THE TEXT has bytes 32 .. 126"; "All other bytes are SIGNS, too, of their own". */
    private static void everyByte() {
        for (int c = 0; c < 256; c++) {
            boolean right = c >= 32 && c <= 126 && c != '<' && c != '&';
            int words = isWordSign(c) ? 1 : 2;
            Bench.due("a text of a, byte " + c + ", b", new Bench().text("a" + (char) c + "b"), right ? words : -2);
        }
    }

    /** "one that is not 32 .. 126", at the begin, within and at the end, and within a tag or a name. */
    private static void wrongBytes() {
        wrong("\u001f", 0);
        wrong("\u007fab", 0);
        wrong("ab \u0000 c", 3);
        wrong("ab\u00ff", 2);
        wrong("ab \u0080\n", 3);
        wrong("a <b\n>", 2);
        wrong("a &l\nt;", 2);
        wrong("a <b>\n", 5);
        wrong(" ".repeat(999) + "\u007f", 999);
    }

    /** "A TAG is <, perhaps /, 1 to 8 letters a .. z, > (a < is a tag's, or wrong)". */
    private static void tagLetters() {
        right("<a></a>", 0);
        right("<z></z>", 0);
        right("<abcdefg></abcdefg>", 0);
        right("<abcdefgh></abcdefgh>", 0);
        wrong("<abcdefghi></abcdefghi>", 0);
        wrong("<abcdefghijklmnopqrst></abcdefghijklmnopqrst>", 0);
        wrong("<abcdefgh></abcdefghi>", 10);
        wrong("x<></>", 1);
        wrong("<b></>", 3);
        wrong("<b></b", 3);
        wrong("a <b", 2);
        wrong("a <abcdefgh", 2);
        wrong("a <", 2);
        wrong("a </", 2);
        wrong("<b></bb>", 3);
        wrong("< b></b>", 0);
        wrong("<b ></b>", 0);
        wrong("<b/></b>", 0);
        wrong("<b><//b>", 3);
        wrong("<b></b/>", 3);
        wrong("<b></ b>", 3);
        wrong("<<b></b>", 0);
        wrong("a < b", 2);
        wrong("a<b", 1);
        for (int c = 32; c < 127; c++) {
            String tags = "x<a" + (char) c + "></a" + (char) c + ">";
            if (c >= 'a' && c <= 'z' || c == '>') {
                right(tags, 1);
            } else {
                wrong(tags, 1);
            }
        }
    }

    /** A > that ends no tag is a sign of its own. */
    private static void greaterAlone() {
        right(">", 0);
        right("a>b", 2);
        right("<b>></b>a", 1);
    }

    /** "One with / CLOSES the latest one that is open, which has its letters". */
    private static void closing() {
        right("<b></b>", 0);
        right("<b><i></i></b>", 0);
        right("<b></b><i></i>", 0);
        right("<b><b></b></b>", 0);
        wrong("</b>", 0);
        wrong("a </b>", 2);
        wrong("<b></b></b>", 7);
        wrong("<b></i>", 3);
        wrong("<b><i></b></i>", 6);
        wrong("<b></bb></b>", 3);
        wrong("<bb></b></bb>", 4);
        wrong("<abcdefgh></abcdefgi>", 10);
        wrong("<bb></bc>", 4);
        wrong("<b><i></i></i></b>", 10);
    }

    /** "any other is OPEN from there on, eight at most at a time"; the fault "is the ninth open one". */
    private static void eightOpen() {
        right(EIGHT + EIGHT_CLOSED, 0);
        wrong(EIGHT + "<b></b>" + EIGHT_CLOSED, 24);
        wrong(EIGHT + "a <i>", 26);
        wrong(EIGHT + "</b><i><i>", 31);
        right(EIGHT + "</b><i></i><b></b>" + EIGHT_CLOSED.substring(4), 0);
        right(EIGHT + "a" + EIGHT_CLOSED + EIGHT + "b" + EIGHT_CLOSED, 1);
        right("<b></b>".repeat(20), 0);
        right("<abcdefgh>".repeat(8) + "</abcdefgh>".repeat(8), 0);
        wrong("<p>".repeat(9) + "</p>".repeat(9), 24);
    }

    /** "none is open at the end"; the fault is "its length, if tags are open at the end". */
    private static void openAtTheEnd() {
        wrong("<b>", 3);
        wrong("a<p>b ", 6);
        wrong("<b><i></i>", 10);
        wrong(EIGHT, 24);
        wrong("<b>" + "a".repeat(997), 1000);
        right("<b>" + "a".repeat(993) + "</b>", 1);
        right("", 0);
    }

    /** "&lt; &gt; &amp; are a SIGN each, < > &; else no & stands there". */
    private static void names() {
        right("&lt;", 0);
        right("&gt;", 0);
        right("&amp;", 0);
        right("&lt;&gt;&amp;", 0);
        right("&lt;b&gt;", 1);
        right("&amp;lt;", 1);
        right("a&lt;b&gt;c&amp;d", 4);
        String[] wrongNames = {"&", "&;", "&l", "&lt", "&lt ;", "&gt", "&amp", "&am;", "&LT;", "&Gt;", "&aMp;", "&quot;",
            "& lt;", "&<b></b>lt;", "&&lt;", "&l<b></b>t;", "&lg;", "&tt;", "&lt&gt;", "&ampx;", "&apm;", "&gmp;", "&ltx",
            "&at;", "&xt;", "&amt;", "&amq;", "&anp;", "&bmp;"};
        for (String name : wrongNames) {
            wrong(name, 0);
            wrong("a " + name, 2);
            wrong(name + " b", 0);
        }
    }

    /** "the place of its first byte that is wrong", if there is more than one. */
    private static void firstFault() {
        wrong("a & <", 2);
        wrong("a < &", 2);
        wrong("<b>&</i>", 3);
        wrong("<b></i>&", 3);
        wrong("<b>\t", 3);
        wrong("a ".repeat(300) + "& a", 600);
        wrong("a ".repeat(300) + "<b>a&", 603);
        wrong("a ".repeat(300) + "</b>a", 600);
        wrong("a ".repeat(300) + "a\t<", 600);
        wrong("a ".repeat(299) + "a\ta", 599);
    }

    /** "A WORD is a row of signs, each a letter or a figure, as long as it can be". */
    private static void wordSigns() {
        Bench.due("letters and figures", Bench.ofText("a1b2 3c 44 Dd").words(), "a1b2 3c 44 dd");
        Bench.due("A .. Z are a .. z", Bench.ofText("ABCDEFGHIJKLMNOPQRSTUVWXYZ").words(), "abcdefghijklmnopqrstuvwxyz");
        Bench.due("all others", Bench.ofText("abcdefghijklmnopqrstuvwxyz0123456789").words(),
            "abcdefghijklmnopqrstuvwxyz0123456789");
        Bench.due("signs between", Bench.ofText("a-b_c'd.e").words(), "a b c d e");
        Bench.due("names between", Bench.ofText("a&amp;b&lt;c").words(), "a b c");
        Bench.due("the longest", new Bench().text("a".repeat(1000)), 1);
        Bench.due("its letters", Bench.ofText("b" + "a".repeat(998) + "c").letters(0), "b" + "a".repeat(998) + "c");
    }

    /** "with no BREAK in it (other tags may stand between)"; "Tags with the letters p are BREAKS". */
    private static void breaksInWords() {
        Bench.due("a tag that opens", Bench.ofText("a<b>b</b>").words(), "ab");
        Bench.due("many tags", Bench.ofText("<i>s</i><b><i>u</i></b>n").words(), "sun");
        Bench.due("an empty tag", Bench.ofText("a<b></b>b").words(), "ab");
        Bench.due("a blank within the tag", Bench.ofText("a<b> </b>b").words(), "a b");
        Bench.due("a BREAK that opens", Bench.ofText("a<p>b c</p>").words(), "a b c");
        Bench.due("a BREAK that closes", Bench.ofText("<p>a b</p>c").words(), "a b c");
        Bench.due("a BREAK among tags", Bench.ofText("a<b><p></p></b>b").words(), "a b");
        Bench.due("pp is none", Bench.ofText("a<pp>b</pp>c").words(), "abc");
        Bench.due("pre is none", Bench.ofText("a<pre>b</pre>c").words(), "abc");
        Bench.due("q is none", Bench.ofText("a<q>b</q>c").words(), "abc");
        Bench.due("ap is none", Bench.ofText("a<ap>b</ap>c").words(), "abc");
    }

    /** "300 words at most"; the fault is "the first byte of the 301st word". */
    private static void threeHundredWords() {
        right("a ".repeat(299), 299);
        right("a ".repeat(300), 300);
        right("a ".repeat(300) + ". ! &lt; <b></b><p></p>", 300);
        wrong("a ".repeat(301), 600);
        wrong("a ".repeat(300) + "bcd", 600);
        wrong("a ".repeat(300) + ". <b>b</b>", 605);
        wrong("a ".repeat(299) + "a<p>a</p>", 602);
        right("a ".repeat(299) + "a<b>a</b>a", 300);
        wrong("a ".repeat(300) + "7", 600);
        wrong("a ".repeat(300) + "Z", 600);
        Bench bench = Bench.ofText("a ".repeat(299) + "zz");
        Bench.due("the last word", bench.letters(299), "zz");
        Bench.due("its POSITION", bench.word(299, 2), 299);
        bench = Bench.ofText("a. ".repeat(300));
        Bench.due("300 sentences", bench.count(1), 300);
        Bench.due("the last one", bench.sentence(299, 0), 299);
    }

    /** "Word 0 has the POSITION 0, each next one 1 more .., but 11 more if there is a BREAK between". */
    private static void positions() {
        Bench.due("without a BREAK", Bench.ofText("a b. c<b>d</b> e").words(2), "0 1 2 3");
        Bench.due("a BREAK that opens", Bench.ofText("a<p>b c</p>").words(2), "0 11 12");
        Bench.due("a BREAK that closes", Bench.ofText("<p>a b</p>c").words(2), "0 1 12");
        Bench.due("two BREAKS", Bench.ofText("a<p></p>b<p><p>c</p></p>d").words(2), "0 11 22 33");
        Bench.due("a BREAK ahead of word 0", Bench.ofText("<p></p><p>a b</p>").words(2), "0 1");
        Bench.due("a BREAK behind the last", Bench.ofText("a b<p></p>").words(2), "0 1");
        Bench.due("other tags", Bench.ofText("a <b>b</b> <pp>c</pp>").words(2), "0 1 2");
        Bench.due("signs and a BREAK", Bench.ofText("a .<p> - b. </p>? c").words(2), "0 11 22");
        Bench.due("many BREAKS", new Bench().text("a<p>a</p>".repeat(111)), 222);
        Bench.due("their POSITION", Bench.ofText("a<p>a</p>".repeat(111)).word(221, 2), 2431);
    }

    private static void sentences(String about, String text, String want) {
        Bench.due(about + " {" + text + "}", Bench.ofText(text).sentences(), want);
    }

    /** "A SENTENCE begins with word 0, and with each word ahead of which .. there is .. a STOP". */
    private static void stops() {
        sentences("no words", ". ! ? ", "");
        sentences("one word", "a", "0+1");
        sentences("a .", "a. b c", "0+1 1+2");
        sentences("a !", "a b! c", "0+2 2+1");
        sentences("a ?", "a? b", "0+1 1+1");
        for (int c = 32; c < 127; c++) {
            if (c != '<' && c != '&' && !isWordSign(c)) {
                boolean stop = c == '.' || c == '!' || c == '?';
                sentences("a sign and a blank", "a" + (char) c + " b", stop ? "0+1 1+1" : "0+2");
            }
        }
        sentences("no blank", "a.b", "0+2");
        sentences("no blank, twice", "a!?b", "0+2");
        sentences("a blank ahead", "a .b", "0+2");
        sentences("blanks on both sides", "a . b", "0+1 1+1");
        sentences("a blank behind another sign", "a.) b", "0+2");
        sentences("a blank behind a name", "a.&lt; b", "0+2");
        sentences("a name is no STOP", "a&gt; b", "0+2");
        sentences("two STOPS", "a.. b", "0+1 1+1");
        sentences("two STOPS with blanks", "a. . b", "0+1 1+1");
        sentences("a STOP, then other signs", "a. - b", "0+1 1+1");
        sentences("other signs, then a STOP", "a) -. b", "0+1 1+1");
        sentences("a STOP ahead of word 0", ". ! a b", "0+2");
        sentences("a STOP behind the last word", "a b. ", "0+2");
        sentences("a STOP at the end", "a b.", "0+2");
        sentences("a STOP of one word ahead only", "a. b c. d e", "0+1 1+2 3+2");
        sentences("a STOP whose blank a word parts", "a.b c", "0+3");
    }

    /** ".. as the next sign, if tags are left out, a blank". */
    private static void stopsAmongTags() {
        sentences("a tag between STOP and blank", "a.<b> b</b>", "0+1 1+1");
        sentences("a closing tag between", "<b>a.</b> b", "0+1 1+1");
        sentences("tags between", "<b>a.</b><i></i><b> </b>b", "0+1 1+1");
        sentences("a tag ahead of the STOP", "<b>a</b>. b", "0+1 1+1");
        sentences("a tag behind the blank", "a. <b>b</b>", "0+1 1+1");
        sentences("a tag and no blank", "a.<b>b</b>", "0+2");
        sentences("a sign in the tag", "a.<b>-</b> b", "0+2");
        sentences("tags in a word behind", "a. <b>b</b>c d", "0+1 1+2");
    }

    /** ".. there is a BREAK". */
    private static void breaksPart() {
        sentences("a BREAK", "a<p>b</p>", "0+1 1+1");
        sentences("a closing BREAK", "<p>a</p>b", "0+1 1+1");
        sentences("two BREAKS", "a<p></p>b", "0+1 1+1");
        sentences("a BREAK and a STOP", "a. <p>b. </p>c", "0+1 1+1 2+1");
        sentences("a BREAK in the STOP", "a.<p> b</p>", "0+1 1+1");
        sentences("a BREAK behind a STOP without blank", "a.<p>b</p>", "0+1 1+1");
        sentences("a BREAK ahead of word 0", "<p>a b</p>", "0+2");
        sentences("a BREAK at the end", "a b<p></p>", "0+2");
        sentences("a BREAK one word ahead only", "a<p>b c</p> d e", "0+1 1+2 3+2");
        sentences("other tags", "a <b>b</b> <pp>c</pp>", "0+3");
        Bench.due("the words' sentences", Bench.ofText("a b. c<p>d e</p>f! g").words(3), "0 0 1 2 2 3 4");
    }

    private static void bytes(String about, String text, String want) {
        Bench.due(about + " {" + text + "}", Bench.ofText(text).sentenceBytes(), want);
    }

    /** "Its BYTES go from the first byte of its first word's first sign to the last byte of the last sign ..". */
    private static void sentenceBytes() {
        bytes("one", "ab", "0-2");
        bytes("signs ahead", " (.ab", "3-5");
        bytes("a tag ahead", "<b>ab</b>", "3-5");
        bytes("a STOP", "ab. cd", "0-3 4-6");
        bytes("a STOP and many blanks", "ab.   cd", "0-3 6-8");
        bytes("signs ahead of the next", "ab. (\"cd\")", "0-6 6-10");
        bytes("a sign and a blank ahead of the next", "ab. - cd", "0-5 6-8");
        bytes("tags ahead of the next", "ab. <b><i>cd</i></b>", "0-3 10-12");
        bytes("a sign within tags", "ab. <b>)</b> cd", "0-8 13-15");
        bytes("a blank within tags", "ab.<b> </b>cd", "0-3 11-13");
        bytes("a BREAK", "ab<p>cd</p>", "0-2 5-7");
        bytes("signs behind a BREAK", "ab<p>- cd</p>", "0-6 7-9");
        bytes("words behind", "ab cd. ef gh. ij", "0-6 7-13 14-16");
        bytes("tags in the last word", "ab c<b>d</b>", "0-8");
        bytes("&lt; ahead of the next", "ab. &lt;cd", "0-8 8-10");
    }

    /** "(or the end)". */
    private static void lastByte() {
        bytes("a STOP at the end", "ab.", "0-3");
        bytes("blanks at the end", "ab.  ", "0-3");
        bytes("a tag at the end", "<b>ab. </b>", "3-6");
        bytes("a sign in tags at the end", "ab<b> !</b> ", "0-7");
        bytes("&lt; at the end", "ab &lt; ", "0-7");
        bytes("&gt; at the end", "ab&gt;", "0-6");
        bytes("&amp; at the end", "ab &amp;", "0-8");
        bytes("a BREAK and a sign at the end", "ab<p>?</p>", "0-6");
        bytes("the last byte there is", "a" + " ".repeat(998) + "b", "0-1000");
        bytes("a blank as the last byte", "a" + " ".repeat(999), "0-1");
    }

    public static void main(String[] args) {
        Bench.begin();
        Bench.part("bytes");
        everyByte();
        wrongBytes();
        Bench.part("tags");
        tagLetters();
        greaterAlone();
        closing();
        eightOpen();
        openAtTheEnd();
        Bench.part("names");
        names();
        Bench.part("first fault");
        firstFault();
        Bench.part("words");
        wordSigns();
        breaksInWords();
        threeHundredWords();
        positions();
        Bench.part("sentences");
        stops();
        stopsAmongTags();
        breaksPart();
        sentenceBytes();
        lastByte();
        Bench.end();
    }
}
