/**
 * Finds the words of a text with tags, holds a query against them, and puts the text, or its best
 * passages, out with the words marked that take part in the match. ../shared/DOC.md says what each
 * call answers.
 */
public final class HighlightPlaces {
    public static final int BAD = -1, FULL = -2;

    // A new object is small; its rows grow with what they hold, and are used again then.
    private static final int FIRST_CELLS = 8;

    private static final int NO_FAULT = -1;
    private static final int TAPE_MOST = 1000;
    private static final int FEED_BYTES = 20;
    private static final int WORDS_MOST = 300;
    private static final int BREAK_STEP = 11;
    private static final int OPEN_MOST = 8;
    private static final int TAG_LETTERS_MOST = 8;
    private static final int DEPTH_MOST = 8;
    private static final int LEAVES_MOST = 12;
    private static final int TERMS_MOST = 6;
    private static final int TERM_LETTERS_MOST = 20;
    private static final int PASSAGES_MOST = 9;
    private static final int SCORE_BASE = 16;
    private static final int WEIGHT_BASE = 1000;
    private static final int HITS_MOST = 3;

    // A ! or ( holds a LEAF, or is one of eight still open, so there are 12 * 8 + 8 of them at most;
    // each brings two nodes at most and each | one more, of which there are fewer than of what they part.
    private static final int NODES_MOST = 400;

    // Every byte of the text in brackets of its own, and each passage with eight tags of eight letters
    // opened ahead (10 bytes each) and closed behind (11 bytes each) and three dots.
    private static final int PRINT_MOST =
        3 * TAPE_MOST + PASSAGES_MOST * (OPEN_MOST * (2 * TAG_LETTERS_MOST + 5) + 3);

    private static final int ANY = 0, ALL = 1, NOT = 2, LEAF = 3;
    private static final int EXACT = 0, BEGINNING = 1, ERROR = 2;

    private final Row tape;
    private final Match match;
    private final Choice choice;
    private final Printer printer;
    private Text spareText;
    private Query spareQuery;
    private int wordLimit;

    public HighlightPlaces() {
        tape = new Row(TAPE_MOST);
        match = new Match();
        choice = new Choice();
        printer = new Printer();
        spareText = new Text();
        spareQuery = new Query();
        wordLimit = WORDS_MOST;
    }

    public int feed(int a, int b, int c, int d, int e) {
        if (tape.size() + FEED_BYTES > TAPE_MOST) {
            return FULL;
        }
        feedNumber(a);
        feedNumber(b);
        feedNumber(c);
        feedNumber(d);
        feedNumber(e);
        return tape.size();
    }

    public int cut(int n) {
        int had = tape.size();
        if (n < 0 || n > had) {
            return BAD;
        }
        tape.keep(n);
        return had;
    }

    public int text() {
        int fault = spareText.read(tape);
        tape.clear();
        choice.clear();
        if (fault != NO_FAULT) {
            return -1 - fault;
        }
        Text before = match.text;
        match.text = spareText;
        spareText = before;
        match.judge(wordLimit);
        return match.text.wordCount();
    }

    public int query() {
        int fault = spareQuery.read(tape);
        tape.clear();
        choice.clear();
        if (fault != NO_FAULT) {
            return -1 - fault;
        }
        Query before = match.query;
        match.query = spareQuery;
        spareQuery = before;
        match.judge(wordLimit);
        return match.query.leafCount();
    }

    public int limit(int n) {
        if (n < 0 || n > WORDS_MOST) {
            return BAD;
        }
        int before = wordLimit;
        wordLimit = n;
        choice.clear();
        match.judge(wordLimit);
        return before;
    }

    public int matches() {
        return match.isTrue();
    }

    public int word(int k, int what) {
        switch (what) {
            case 0: return match.text.wordStart.get(k);
            case 1: return match.text.wordEnd.get(k);
            case 2: return match.text.wordPosition.get(k);
            case 3: return match.text.wordSentence.get(k);
            case 4: return match.marked.get(k);
            case 5: return match.text.letterCount.get(k);
            default: return BAD;
        }
    }

    public int letter(int k, int i) {
        if (i < 0 || i >= match.text.letterCount.get(k)) {
            return BAD;
        }
        return match.text.letters.get(match.text.letterStart.get(k) + i);
    }

    public int sentence(int k, int what) {
        if (k < 0 || k >= match.text.sentenceCount()) {
            return BAD;
        }
        switch (what) {
            case 0: return match.text.sentenceWord.get(k);
            case 1: return match.text.wordsOf(k);
            case 2: return match.scores.get(k);
            case 3: return match.text.sentenceStart(k);
            case 4: return match.text.sentenceEnd.get(k);
            default: return BAD;
        }
    }

    public int leaf(int k, int what) {
        if (k < 0 || k >= match.query.leafCount()) {
            return BAD;
        }
        switch (what) {
            case 0: return match.query.leafTerms.get(k);
            case 1: return match.query.leafRoom.get(k);
            case 2: return match.leafCounts.get(k) > 0 ? 1 : 0;
            case 3: return match.leafLit.get(k);
            case 4: return match.leafCounts.get(k);
            case 5: return match.weightOf(k);
            default: return BAD;
        }
    }

    public int place(int k, int what) {
        switch (what) {
            case 0: return match.placeFirst.get(k);
            case 1: return match.placeLast.get(k);
            default: return BAD;
        }
    }

    public int passages(int n) {
        if (n < 1 || n > PASSAGES_MOST) {
            return BAD;
        }
        choice.choose(match.scores, n);
        return choice.firsts.size();
    }

    public int passage(int k, int what) {
        switch (what) {
            case 0: return choice.firsts.get(k);
            case 1: return choice.lasts.get(k);
            default: return BAD;
        }
    }

    public int print(boolean whole) {
        if (whole) {
            printer.putText(match);
        } else {
            printer.putPassages(match, choice);
        }
        return printer.out.size();
    }

    public int printed(int i) {
        return printer.out.get(i);
    }

    public int count(int what) {
        switch (what) {
            case 0: return match.text.wordCount();
            case 1: return match.text.sentenceCount();
            case 2: return match.placeFirst.size();
            case 3: return match.query.leafCount();
            case 4: return choice.firsts.size();
            case 5: return printer.out.size();
            case 6: return Math.max(0, match.text.wordCount() - wordLimit);
            case 7: return match.text.bytes.size();
            case 8: return tape.size();
            default: return BAD;
        }
    }

    private void feedNumber(int number) {
        for (int shift = 24; shift >= 0; shift -= 8) {
            tape.add((number >>> shift) & 255);
        }
    }

    private static int small(int c) {
        return c >= 'A' && c <= 'Z' ? c - 'A' + 'a' : c;
    }

    private static boolean isSmallLetter(int c) {
        return c >= 'a' && c <= 'z';
    }

    private static boolean isFigure(int c) {
        return c >= '0' && c <= '9';
    }

    private static boolean isWordSign(int c) {
        return c >= 'a' && c <= 'z' || c >= 'A' && c <= 'Z' || c >= '0' && c <= '9';
    }

    private static int quotient(int dividend, int divisor) {
        return divisor > 0 ? dividend / divisor : 0;
    }

    /** Numbers in a row, at most so many. It looks at every index itself, so that its users need not. */
    private static final class Row {
        private final int most;
        private int[] cells;
        private int used;

        Row(int most) {
            this.most = most;
            cells = new int[FIRST_CELLS];
            used = 0;
        }

        int size() {
            return used;
        }

        int get(int i) {
            return i >= 0 && i < used ? cells[i] : BAD;
        }

        int latest() {
            return get(used - 1);
        }

        void set(int i, int value) {
            if (i >= 0 && i < used) {
                cells[i] = value;
            }
        }

        void setBit(int i, int bit) {
            if (i >= 0 && i < used) {
                cells[i] |= 1 << bit;
            }
        }

        boolean hasBit(int i, int bit) {
            return i >= 0 && i < used && (cells[i] >> bit & 1) == 1;
        }

        void add(int value) {
            if (used < most) {
                makeRoom(used + 1);
            }
            if (used < most && used < cells.length) {
                cells[used] = value;
                used++;
            }
        }

        void keep(int n) {
            if (n >= 0 && n < used) {
                used = n;
            }
        }

        void clear() {
            used = 0;
        }

        void fill(int n, int value) {
            used = 0;
            for (int i = 0; i < n; i++) {
                add(value);
            }
        }

        void copy(Row other) {
            used = 0;
            for (int i = 0; i < other.size(); i++) {
                add(other.get(i));
            }
        }

        /** Twice as many cells as before, so that few arrays are made however long the row becomes. */
        private void makeRoom(int n) {
            if (n <= cells.length || n > most) {
                return;
            }
            int[] more = new int[2 * n < most ? 2 * n : most];
            for (int i = 0; i < cells.length && i < more.length; i++) {
                more[i] = cells[i];
            }
            cells = more;
        }
    }

    /** The tags that are OPEN, each as the place of its <. */
    private static final class Tags {
        final Row starts;

        Tags() {
            starts = new Row(OPEN_MOST);
        }

        /** The length of the tag whose < stands at start, 0 if it is not as told. */
        static int lengthAt(Row bytes, int start) {
            int first = lettersAt(bytes, start);
            int letters = 0;
            while (letters < TAG_LETTERS_MOST && isSmallLetter(bytes.get(first + letters))) {
                letters++;
            }
            if (letters == 0 || bytes.get(first + letters) != '>') {
                return 0;
            }
            return first + letters + 1 - start;
        }

        static boolean isBreak(Row bytes, int start) {
            int first = lettersAt(bytes, start);
            return bytes.get(first) == 'p' && bytes.get(first + 1) == '>';
        }

        /** Opens or closes the tag at start; false if it may not stand there. */
        boolean take(Row bytes, int start) {
            if (bytes.get(start + 1) != '/') {
                boolean room = starts.size() < OPEN_MOST;
                starts.add(start);
                return room;
            }
            if (starts.size() == 0 || !haveSameLetters(bytes, starts.latest(), start)) {
                return false;
            }
            starts.keep(starts.size() - 1);
            return true;
        }

        private static int lettersAt(Row bytes, int start) {
            return bytes.get(start + 1) == '/' ? start + 2 : start + 1;
        }

        private static boolean haveSameLetters(Row bytes, int opening, int closing) {
            for (int i = 0; i <= TAG_LETTERS_MOST; i++) {
                int c = bytes.get(opening + 1 + i);
                if (c != bytes.get(closing + 2 + i)) {
                    return false;
                }
                if (c == '>') {
                    return true;
                }
            }
            return false;
        }
    }

    /** THE TEXT, its words and its sentences. */
    private static final class Text {
        final Row bytes;
        final Row wordStart;
        final Row wordEnd;
        final Row wordPosition;
        final Row wordSentence;
        final Row letters;
        final Row letterStart;
        final Row letterCount;
        final Row sentenceWord;
        final Row sentenceEnd;
        private final Tags open;
        private boolean inWord;
        private boolean broken;
        private boolean stopped;
        private boolean mayStop;
        private int fullEnd;

        Text() {
            bytes = new Row(TAPE_MOST);
            wordStart = new Row(WORDS_MOST);
            wordEnd = new Row(WORDS_MOST);
            wordPosition = new Row(WORDS_MOST);
            wordSentence = new Row(WORDS_MOST);
            letters = new Row(TAPE_MOST);
            letterStart = new Row(WORDS_MOST);
            letterCount = new Row(WORDS_MOST);
            sentenceWord = new Row(WORDS_MOST);
            sentenceEnd = new Row(WORDS_MOST);
            open = new Tags();
        }

        int wordCount() {
            return wordStart.size();
        }

        int sentenceCount() {
            return sentenceWord.size();
        }

        int wordsOf(int sentence) {
            boolean last = sentence + 1 >= sentenceCount();
            int behind = last ? wordCount() : sentenceWord.get(sentence + 1);
            return behind - sentenceWord.get(sentence);
        }

        int sentenceStart(int sentence) {
            return wordStart.get(sentenceWord.get(sentence));
        }

        /** Reads the tape as a text: THE FAULT, or NO_FAULT. */
        int read(Row tape) {
            begin(tape);
            int at = 0;
            for (int turn = 0; turn < bytes.size() && at < bytes.size(); turn++) {
                int length = takeAt(at);
                if (length == 0) {
                    return at;
                }
                at += length;
            }
            if (open.starts.size() > 0) {
                return bytes.size();
            }
            if (wordCount() > 0) {
                sentenceEnd.add(fullEnd);
            }
            return NO_FAULT;
        }

        private void begin(Row tape) {
            bytes.copy(tape);
            wordStart.clear();
            wordEnd.clear();
            wordPosition.clear();
            wordSentence.clear();
            letters.clear();
            letterStart.clear();
            letterCount.clear();
            sentenceWord.clear();
            sentenceEnd.clear();
            open.starts.clear();
            inWord = false;
            broken = false;
            stopped = false;
            mayStop = false;
            fullEnd = 0;
        }

        /** Takes the tag or sign at a place: its length, 0 if it is wrong. */
        private int takeAt(int at) {
            int c = bytes.get(at);
            if (c < 32 || c > 126) {
                return 0;
            }
            if (c == '<') {
                return takeTag(at);
            }
            if (isWordSign(c)) {
                return takeWordSign(at, small(c)) ? 1 : 0;
            }
            int length = c == '&' ? nameLength(at) : 1;
            if (length > 0) {
                takeOtherSign(c, at + length);
            }
            return length;
        }

        private int takeTag(int at) {
            int length = Tags.lengthAt(bytes, at);
            if (length == 0 || !open.take(bytes, at)) {
                return 0;
            }
            if (Tags.isBreak(bytes, at)) {
                broken = true;
                inWord = false;
            }
            return length;
        }

        /** The length of a sign written as a name, 0 if no such name stands there. */
        private int nameLength(int at) {
            int first = bytes.get(at + 1);
            int second = bytes.get(at + 2);
            int third = bytes.get(at + 3);
            if ((first == 'l' || first == 'g') && second == 't' && third == ';') {
                return 4;
            }
            boolean amp = first == 'a' && second == 'm' && third == 'p' && bytes.get(at + 4) == ';';
            return amp ? 5 : 0;
        }

        private void takeOtherSign(int c, int end) {
            inWord = false;
            if (c == ' ') {
                stopped = stopped || mayStop;
            } else {
                fullEnd = end;
            }
            mayStop = c == '.' || c == '!' || c == '?';
        }

        private boolean takeWordSign(int at, int c) {
            if (!inWord && wordCount() >= WORDS_MOST) {
                return false;
            }
            if (!inWord) {
                beginWord(at);
            }
            int word = wordCount() - 1;
            letters.add(c);
            letterCount.set(word, letterCount.get(word) + 1);
            wordEnd.set(word, at + 1);
            fullEnd = at + 1;
            mayStop = false;
            return true;
        }

        private void beginWord(int at) {
            boolean first = wordCount() == 0;
            if (!first && (broken || stopped)) {
                sentenceEnd.add(fullEnd);
            }
            if (first || broken || stopped) {
                sentenceWord.add(wordCount());
            }
            int step = broken ? BREAK_STEP : 1;
            wordPosition.add(first ? 0 : wordPosition.latest() + step);
            wordSentence.add(sentenceCount() - 1);
            wordStart.add(at);
            wordEnd.add(at);
            letterStart.add(letters.size());
            letterCount.add(0);
            inWord = true;
            broken = false;
            stopped = false;
        }
    }

    /**
     * THE QUERY: its LEAVES, their TERMS, and a tree of nodes, each of which stands behind its parent.
     * A LEAF that is a TERM is held as a phrase of one. Its bytes have a .. z for A .. Z.
     */
    private static final class Query {
        final Row bytes;
        final Row termStart;
        final Row termLength;
        final Row termKind;
        final Row leafTerm;
        final Row leafTerms;
        final Row leafRoom;
        final Row nodeKind;
        final Row nodeParent;
        final Row nodeLeaf;
        private int at;
        private int current;
        private int depth;
        private boolean wantsOne;

        Query() {
            bytes = new Row(TAPE_MOST);
            termStart = new Row(LEAVES_MOST * TERMS_MOST);
            termLength = new Row(LEAVES_MOST * TERMS_MOST);
            termKind = new Row(LEAVES_MOST * TERMS_MOST);
            leafTerm = new Row(LEAVES_MOST);
            leafTerms = new Row(LEAVES_MOST);
            leafRoom = new Row(LEAVES_MOST);
            nodeKind = new Row(NODES_MOST);
            nodeParent = new Row(NODES_MOST);
            nodeLeaf = new Row(NODES_MOST);
        }

        int leafCount() {
            return leafRoom.size();
        }

        /** Reads the tape as a query: ITS FAULT, or NO_FAULT. */
        int read(Row tape) {
            begin(tape);
            for (int turn = 0; turn < bytes.size() && at < bytes.size(); turn++) {
                int c = bytes.get(at);
                if (c == ' ') {
                    at++;
                } else if (!(wantsOne ? takeOne(c) : takeJoint(c))) {
                    return at;
                }
            }
            boolean closed = nodeParent.get(current) == 0;
            return wantsOne || !closed ? bytes.size() : NO_FAULT;
        }

        private void begin(Row tape) {
            bytes.clear();
            for (int i = 0; i < tape.size(); i++) {
                bytes.add(small(tape.get(i)));
            }
            termStart.clear();
            termLength.clear();
            termKind.clear();
            leafTerm.clear();
            leafTerms.clear();
            leafRoom.clear();
            nodeKind.clear();
            nodeParent.clear();
            nodeLeaf.clear();
            at = 0;
            depth = 0;
            wantsOne = true;
            current = addNode(ALL, addNode(ANY, BAD, BAD), BAD);
        }

        private int addNode(int kind, int parent, int leaf) {
            nodeKind.add(kind);
            nodeParent.add(parent);
            nodeLeaf.add(leaf);
            return nodeKind.size() - 1;
        }

        // Each of what follows goes on behind what it takes; if a byte cannot stand where it does, it
        // answers false (takeRoom: BAD), and "at" is that byte's place.

        private boolean takeOne(int c) {
            if (c == '!' || c == '(') {
                return goDeeper(c);
            }
            if (leafCount() >= LEAVES_MOST || !takeLeaf(c)) {
                return false;
            }
            addNode(LEAF, current, leafCount() - 1);
            endOne();
            return true;
        }

        private boolean goDeeper(int c) {
            if (depth >= DEPTH_MOST) {
                return false;
            }
            depth++;
            at++;
            current = c == '!' ? addNode(NOT, current, BAD) : addNode(ALL, addNode(ANY, current, BAD), BAD);
            return true;
        }

        /** A ! ends with the ONE behind it, so with a ONE all that stand right ahead of it end. */
        private void endOne() {
            for (int turn = 0; turn < DEPTH_MOST && nodeKind.get(current) == NOT; turn++) {
                current = nodeParent.get(current);
                depth--;
            }
            wantsOne = false;
        }

        private boolean takeJoint(int c) {
            int any = nodeParent.get(current);
            if (c == ')') {
                return closeAny(any);
            }
            if (c != '|' && c != '&') {
                return false;
            }
            if (c == '|') {
                current = addNode(ALL, any, BAD);
            }
            wantsOne = true;
            at++;
            return true;
        }

        private boolean closeAny(int any) {
            if (any == 0) {
                return false;
            }
            current = nodeParent.get(any);
            depth--;
            at++;
            endOne();
            return true;
        }

        private boolean takeLeaf(int c) {
            int firstTerm = termStart.size();
            boolean taken = c == '"' ? takePhrase() : takeTerm();
            if (!taken) {
                return false;
            }
            int room = c == '"' ? takeRoom() : 0;
            if (room == BAD) {
                return false;
            }
            leafTerm.add(firstTerm);
            leafTerms.add(termStart.size() - firstTerm);
            leafRoom.add(room);
            return true;
        }

        private boolean takePhrase() {
            at++;
            for (int terms = 0; terms <= TERMS_MOST; terms++) {
                skipBlanks();
                if (bytes.get(at) == '"' && terms > 0) {
                    at++;
                    return true;
                }
                if (terms == TERMS_MOST || !takeTerm() || !termIsOver()) {
                    return false;
                }
            }
            return false;
        }

        private void skipBlanks() {
            while (at < bytes.size() && bytes.get(at) == ' ') {
                at++;
            }
        }

        private boolean termIsOver() {
            return bytes.get(at) == ' ' || bytes.get(at) == '"';
        }

        private boolean takeTerm() {
            int start = at;
            while (at < start + TERM_LETTERS_MOST && isWordSign(bytes.get(at))) {
                at++;
            }
            int length = at - start;
            if (length == 0 || isWordSign(bytes.get(at))) {
                return false;
            }
            termStart.add(start);
            termLength.add(length);
            termKind.add(takeKind(bytes.get(at)));
            return true;
        }

        private int takeKind(int c) {
            if (c != '*' && c != '~') {
                return EXACT;
            }
            at++;
            return c == '*' ? BEGINNING : ERROR;
        }

        /** The ROOM behind a phrase, BAD if a / stands there without a figure. */
        private int takeRoom() {
            if (bytes.get(at) != '/') {
                return 0;
            }
            at++;
            if (!isFigure(bytes.get(at))) {
                return BAD;
            }
            int room = bytes.get(at) - '0';
            at++;
            return room;
        }
    }

    /** A text, a query, and what comes of it when they are held against each other. */
    private static final class Match {
        Text text;
        Query query;
        final Row leafCounts;
        final Row leafLit;
        final Row marked;
        final Row placeFirst;
        final Row placeLast;
        final Row scores;
        private final Row fits;
        private final Row firsts;
        private final Row inWays;
        private final Row joined;
        private final Row earliest;
        private final Row latest;
        private final Row nodeTrue;
        private final Row nodeLit;
        private int looked;

        Match() {
            text = new Text();
            query = new Query();
            leafCounts = new Row(LEAVES_MOST);
            leafLit = new Row(LEAVES_MOST);
            marked = new Row(WORDS_MOST);
            placeFirst = new Row(WORDS_MOST);
            placeLast = new Row(WORDS_MOST);
            scores = new Row(WORDS_MOST);
            fits = new Row(WORDS_MOST);
            firsts = new Row(WORDS_MOST);
            inWays = new Row(WORDS_MOST);
            joined = new Row(WORDS_MOST);
            earliest = new Row(TERMS_MOST);
            latest = new Row(TERMS_MOST);
            nodeTrue = new Row(NODES_MOST);
            nodeLit = new Row(NODES_MOST);
        }

        int isTrue() {
            return nodeTrue.size() > 0 ? nodeTrue.get(0) : 0;
        }

        int weightOf(int leaf) {
            return quotient(WEIGHT_BASE, 1 + leafCounts.get(leaf));
        }

        int placeStart(int place) {
            return text.wordStart.get(placeFirst.get(place));
        }

        int placeEnd(int place) {
            return text.wordEnd.get(placeLast.get(place));
        }

        void judge(int limit) {
            looked = Math.min(limit, text.wordCount());
            findWays();
            findTruth();
            findLit();
            findMarked();
            findPlaces();
            findScores();
        }

        private void findWays() {
            firsts.fill(looked, 0);
            inWays.fill(looked, 0);
            leafCounts.clear();
            for (int leaf = 0; leaf < query.leafCount(); leaf++) {
                findFits(leaf);
                int found = 0;
                for (int word = 0; word < looked; word++) {
                    if (fits.hasBit(word, 0) && findWaysFrom(word, leaf)) {
                        found++;
                    }
                }
                leafCounts.add(found);
            }
        }

        /** For each word a bit for each TERM of the leaf that it FITS. */
        private void findFits(int leaf) {
            fits.fill(looked, 0);
            int firstTerm = query.leafTerm.get(leaf);
            for (int i = 0; i < query.leafTerms.get(leaf); i++) {
                for (int word = 0; word < looked; word++) {
                    if (wordFits(word, firstTerm + i)) {
                        fits.setBit(word, i);
                    }
                }
            }
        }

        private boolean wordFits(int word, int term) {
            int wordLength = text.letterCount.get(word);
            int termLength = query.termLength.get(term);
            int kind = query.termKind.get(term);
            if (kind == ERROR) {
                return hasOneError(word, term, Math.min(wordLength, termLength), Math.max(wordLength, termLength));
            }
            boolean longEnough = kind == BEGINNING ? wordLength >= termLength : wordLength == termLength;
            return longEnough && sameAhead(word, term) == termLength;
        }

        /** Whether all but one letter at most of the longer one are the same ahead and behind of that one. */
        private boolean hasOneError(int word, int term, int shorter, int longer) {
            if (longer - shorter > 1) {
                return false;
            }
            int ahead = sameAhead(word, term);
            return longer - ahead - sameBehind(word, term, shorter - ahead) <= 1;
        }

        /** How many letters are the same from the first on. */
        private int sameAhead(int word, int term) {
            int most = Math.min(text.letterCount.get(word), query.termLength.get(term));
            int wordAt = text.letterStart.get(word);
            int termAt = query.termStart.get(term);
            int same = 0;
            while (same < most && text.letters.get(wordAt + same) == query.bytes.get(termAt + same)) {
                same++;
            }
            return same;
        }

        /** How many letters, at most so many, are the same from the last on backwards. */
        private int sameBehind(int word, int term, int most) {
            int wordAt = text.letterStart.get(word) + text.letterCount.get(word) - 1;
            int termAt = query.termStart.get(term) + query.termLength.get(term) - 1;
            int same = 0;
            while (same < most && text.letters.get(wordAt - same) == query.bytes.get(termAt - same)) {
                same++;
            }
            return same;
        }

        /** Notes the words of all WAYS that begin with a word; false if there are none. */
        private boolean findWaysFrom(int first, int leaf) {
            int terms = query.leafTerms.get(leaf);
            int last = lastWithin(first, terms - 1 + query.leafRoom.get(leaf));
            if (!findEarliest(first, last, terms)) {
                return false;
            }
            findLatest(first, last, terms);
            firsts.setBit(first, leaf);
            inWays.setBit(first, leaf);
            for (int i = 1; i < terms; i++) {
                for (int word = earliest.get(i); word <= latest.get(i); word++) {
                    if (fits.hasBit(word, i)) {
                        inWays.setBit(word, leaf);
                    }
                }
            }
            return true;
        }

        private int lastWithin(int first, int reach) {
            int most = text.wordPosition.get(first) + reach;
            int last = first;
            while (last + 1 < looked && text.wordPosition.get(last + 1) <= most) {
                last++;
            }
            return last;
        }

        /** For each TERM the first word that can stand for it if all TERMS ahead have theirs. */
        private boolean findEarliest(int first, int last, int terms) {
            earliest.clear();
            earliest.add(first);
            for (int i = 1; i < terms; i++) {
                int word = earliest.get(i - 1) + 1;
                while (word <= last && !fits.hasBit(word, i)) {
                    word++;
                }
                if (word > last) {
                    return false;
                }
                earliest.add(word);
            }
            return true;
        }

        /** For each TERM the last word that can stand for it if all TERMS behind have theirs. */
        private void findLatest(int first, int last, int terms) {
            latest.fill(terms, first);
            int word = last + 1;
            for (int i = terms - 1; i > 0; i--) {
                word--;
                while (word > first && !fits.hasBit(word, i)) {
                    word--;
                }
                latest.set(i, word);
            }
        }

        /** Nodes stand behind their parents, so from the last one back each is settled when it is used. */
        private void findTruth() {
            int nodes = query.nodeKind.size();
            nodeTrue.fill(nodes, 0);
            for (int node = 0; node < nodes; node++) {
                int kind = query.nodeKind.get(node);
                boolean leafTrue = kind == LEAF && leafCounts.get(query.nodeLeaf.get(node)) > 0;
                nodeTrue.set(node, kind == ALL || leafTrue ? 1 : 0);
            }
            for (int node = nodes - 1; node > 0; node--) {
                int parent = query.nodeParent.get(node);
                int kind = query.nodeKind.get(parent);
                int truth = nodeTrue.get(node);
                if (kind == NOT) {
                    nodeTrue.set(parent, 1 - truth);
                } else if (kind == ANY) {
                    nodeTrue.set(parent, nodeTrue.get(parent) | truth);
                } else {
                    nodeTrue.set(parent, nodeTrue.get(parent) & truth);
                }
            }
        }

        private void findLit() {
            int nodes = query.nodeKind.size();
            nodeLit.fill(nodes, 0);
            nodeLit.set(0, isTrue());
            leafLit.fill(query.leafCount(), 0);
            for (int node = 1; node < nodes; node++) {
                int parent = query.nodeParent.get(node);
                boolean lit = nodeLit.get(parent) == 1 && query.nodeKind.get(parent) != NOT
                    && nodeTrue.get(node) == 1;
                nodeLit.set(node, lit ? 1 : 0);
                if (lit) {
                    leafLit.set(query.nodeLeaf.get(node), 1);
                }
            }
        }

        private void findMarked() {
            marked.fill(text.wordCount(), 0);
            joined.fill(looked, 0);
            for (int leaf = 0; leaf < query.leafCount(); leaf++) {
                if (leafLit.get(leaf) == 1) {
                    markLeaf(leaf);
                }
            }
        }

        /** The words of a WAY with ROOM 0 stand one right behind the other, so each is joined to the next. */
        private void markLeaf(int leaf) {
            int joints = query.leafRoom.get(leaf) == 0 ? query.leafTerms.get(leaf) - 1 : 0;
            for (int word = 0; word < looked; word++) {
                if (inWays.hasBit(word, leaf)) {
                    marked.set(word, 1);
                }
                for (int i = 0; i < joints && firsts.hasBit(word, leaf); i++) {
                    joined.set(word + i, 1);
                }
            }
        }

        private void findPlaces() {
            placeFirst.clear();
            placeLast.clear();
            for (int word = 0; word < looked; word++) {
                if (marked.get(word) == 1 && joined.get(word - 1) != 1) {
                    placeFirst.add(word);
                }
                if (marked.get(word) == 1 && joined.get(word) != 1) {
                    placeLast.add(word);
                }
            }
        }

        private void findScores() {
            scores.clear();
            for (int sentence = 0; sentence < text.sentenceCount(); sentence++) {
                int sum = 0;
                for (int leaf = 0; leaf < query.leafCount(); leaf++) {
                    if (leafLit.get(leaf) == 1) {
                        sum += weightOf(leaf) * hitsIn(sentence, leaf);
                    }
                }
                scores.add(quotient(SCORE_BASE * sum, SCORE_BASE + text.wordsOf(sentence)));
            }
        }

        private int hitsIn(int sentence, int leaf) {
            int first = text.sentenceWord.get(sentence);
            int behind = first + text.wordsOf(sentence);
            int hits = 0;
            for (int word = first; word < behind && hits < HITS_MOST; word++) {
                if (firsts.hasBit(word, leaf)) {
                    hits++;
                }
            }
            return hits;
        }
    }

    /** The PASSAGES that were chosen. */
    private static final class Choice {
        final Row firsts;
        final Row lasts;
        private final Row chosen;

        Choice() {
            firsts = new Row(PASSAGES_MOST);
            lasts = new Row(PASSAGES_MOST);
            chosen = new Row(WORDS_MOST);
        }

        void clear() {
            firsts.clear();
            lasts.clear();
        }

        void choose(Row scores, int n) {
            chosen.fill(scores.size(), 0);
            if (bestLeft(scores) == BAD) {
                chosen.set(0, 1);
            }
            for (int i = 0; i < n; i++) {
                chosen.set(bestLeft(scores), 1);
            }
            gather();
        }

        /** The first one of the greatest SCORE above 0 among those not chosen yet, or BAD. */
        private int bestLeft(Row scores) {
            int best = BAD;
            int bestScore = 0;
            for (int sentence = 0; sentence < scores.size(); sentence++) {
                if (chosen.get(sentence) == 0 && scores.get(sentence) > bestScore) {
                    best = sentence;
                    bestScore = scores.get(sentence);
                }
            }
            return best;
        }

        private void gather() {
            clear();
            for (int sentence = 0; sentence < chosen.size(); sentence++) {
                if (chosen.get(sentence) == 1 && chosen.get(sentence - 1) != 1) {
                    firsts.add(sentence);
                }
                if (chosen.get(sentence) == 1 && chosen.get(sentence + 1) != 1) {
                    lasts.add(sentence);
                }
            }
        }
    }

    /** What was PUT OUT latest. */
    private static final class Printer {
        final Row out;
        private final Tags open;

        Printer() {
            out = new Row(PRINT_MOST);
            open = new Tags();
        }

        void putText(Match match) {
            out.clear();
            putOut(match, 0, match.text.bytes.size());
        }

        void putPassages(Match match, Choice choice) {
            Text text = match.text;
            out.clear();
            for (int k = 0; k < choice.firsts.size(); k++) {
                for (int dots = 0; k > 0 && dots < 3; dots++) {
                    out.add('.');
                }
                int from = text.sentenceStart(choice.firsts.get(k));
                putOut(match, from, text.sentenceEnd.get(choice.lasts.get(k)));
            }
        }

        private void putOut(Match match, int from, int to) {
            openAhead(match.text.bytes, from);
            putBytes(match, from, to);
            closeBehind(match.text.bytes);
        }

        private void openAhead(Row bytes, int from) {
            open.starts.clear();
            for (int i = 0; i < from; i++) {
                if (bytes.get(i) == '<') {
                    open.take(bytes, i);
                }
            }
            for (int k = 0; k < open.starts.size(); k++) {
                out.add('<');
                putLetters(bytes, open.starts.get(k));
            }
        }

        /** Between two places there is a tag or another sign, so a row of one never runs on into the next. */
        private void putBytes(Match match, int from, int to) {
            Row bytes = match.text.bytes;
            int place = 0;
            int tagEnd = from;
            boolean inRow = false;
            for (int i = from; i < to; i++) {
                if (bytes.get(i) == '<') {
                    open.take(bytes, i);
                    tagEnd = i + Tags.lengthAt(bytes, i);
                }
                while (place < match.placeLast.size() && match.placeEnd(place) <= i) {
                    place++;
                }
                boolean lit = i >= tagEnd && place < match.placeFirst.size() && match.placeStart(place) <= i;
                putMark(inRow, lit);
                inRow = lit;
                out.add(bytes.get(i));
            }
            putMark(inRow, false);
        }

        private void putMark(boolean before, boolean now) {
            if (before != now) {
                out.add(now ? '[' : ']');
            }
        }

        private void closeBehind(Row bytes) {
            for (int k = open.starts.size() - 1; k >= 0; k--) {
                out.add('<');
                out.add('/');
                putLetters(bytes, open.starts.get(k));
            }
        }

        /** The letters of the opening tag at start, and its >. */
        private void putLetters(Row bytes, int start) {
            int length = Tags.lengthAt(bytes, start);
            for (int i = 1; i < length; i++) {
                out.add(bytes.get(start + i));
            }
        }
    }
}
