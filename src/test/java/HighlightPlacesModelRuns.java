import java.util.ArrayList;
import java.util.Collections;
import java.util.List;
import java.util.TreeSet;
import java.util.regex.Matcher;
import java.util.regex.Pattern;

/**
 * Holds the class against a model that reads the document in the plainest way, without care for speed,
 * on texts and queries made up from a fixed row of numbers.
 */
public final class HighlightPlacesModelRuns {
    private static final int RUNS = 3000;

    public static void main(String[] args) {
        Bench.begin();
        Maker maker = new Maker(20261115L);
        int goodTexts = 0;
        int goodQueries = 0;
        int lit = 0;
        for (int run = 0; run < RUNS && Bench.wrong() < 40; run++) {
            Pair pair = new Pair(run);
            for (int round = 0; round < 3; round++) {
                goodTexts += pair.text(maker.text()) >= 0 ? 1 : 0;
                goodQueries += pair.query(maker.query()) >= 0 ? 1 : 0;
                if (maker.below(3) == 0) {
                    pair.limit(maker.below(2) == 0 ? 302 - maker.below(4) : maker.below(40) - 2);
                }
                pair.compare();
                pair.passages(maker.below(11));
                pair.compare();
                lit += pair.model.places.size();
            }
        }
        System.out.println(RUNS + " runs, " + goodTexts + " texts and " + goodQueries + " queries without fault, "
            + lit + " places");
        boolean rich = goodTexts >= RUNS && goodQueries >= RUNS && lit >= 3 * RUNS;
        Bench.due("whether the made up inputs are rich", rich ? 1 : 0, 1);
        Bench.end();
    }

    /** The class and the model side by side. */
    private static final class Pair {
        final Bench x = new Bench();
        final Model model = new Model();
        String story;

        Pair(int run) {
            story = "run " + run;
        }

        void tell(String what) {
            story += what;
            Bench.part(story);
        }

        void due(String call, int got, int want) {
            Bench.due(call, got, want);
        }

        void load(String bytes) {
            x.load(bytes);
            due("count(8)", x.count(8), bytes.length());
        }

        int text(String bytes) {
            tell(" text{" + bytes + "}");
            load(bytes);
            int want = model.text(bytes);
            due("text()", x.text(), want);
            return want;
        }

        int query(String bytes) {
            tell(" query{" + bytes + "}");
            load(bytes);
            int want = model.query(bytes);
            due("query()", x.query(), want);
            return want;
        }

        void limit(int n) {
            tell(" limit " + n);
            due("limit(" + n + ")", x.limit(n), model.limit(n));
        }

        void passages(int n) {
            tell(" passages " + n);
            due("passages(" + n + ")", x.passages(n), model.passages(n));
        }

        void compare() {
            due("matches()", x.matches(), model.isTrue() ? 1 : 0);
            for (int k = -1; k <= model.words.size(); k++) {
                for (int what = -1; what <= 6; what++) {
                    due("word(" + k + ", " + what + ")", x.word(k, what), model.word(k, what));
                }
                int letters = Math.max(0, model.word(k, 5));
                for (int i = -1; i <= letters; i++) {
                    due("letter(" + k + ", " + i + ")", x.letter(k, i), model.letter(k, i));
                }
            }
            for (int k = -1; k <= model.sentences.size(); k++) {
                for (int what = -1; what <= 5; what++) {
                    due("sentence(" + k + ", " + what + ")", x.sentence(k, what), model.sentence(k, what));
                }
            }
            for (int k = -1; k <= model.leaves.size(); k++) {
                for (int what = -1; what <= 6; what++) {
                    due("leaf(" + k + ", " + what + ")", x.leaf(k, what), model.leaf(k, what));
                }
            }
            for (int k = -1; k <= model.places.size(); k++) {
                for (int what = -1; what <= 2; what++) {
                    due("place(" + k + ", " + what + ")", x.place(k, what), model.place(k, what));
                }
            }
            for (int k = -1; k <= model.chosen.size(); k++) {
                for (int what = -1; what <= 2; what++) {
                    due("passage(" + k + ", " + what + ")", x.passage(k, what), model.passage(k, what));
                }
            }
            print(true);
            print(false);
            for (int what = -1; what <= 9; what++) {
                due("count(" + what + ")", x.count(what), model.count(what));
            }
        }

        void print(boolean whole) {
            String want = model.print(whole);
            due("print(" + whole + ")", x.print(whole), want.length());
            due("printed(-1)", x.printed(-1), -1);
            due("printed behind", x.printed(want.length()), -1);
            Bench.due("printed", x.printed(), want);
        }
    }

    private static final class Token {
        String bytes;
        int from;
        int to;

        boolean isTag() {
            return bytes.startsWith("<");
        }

        boolean isBreak() {
            return bytes.equals("<p>") || bytes.equals("</p>");
        }

        boolean isWordSign() {
            return bytes.matches("[A-Za-z0-9]");
        }
    }

    private static final class Fault extends RuntimeException {
        private static final long serialVersionUID = 1L;
        final int place;

        Fault(int place) {
            this.place = place;
        }
    }

    /** One word: the tokens (numbers in the row) of its first and last sign, and its letters. */
    private static final class Word {
        int first;
        int last;
        int position;
        int sentence;
        String letters = "";
    }

    private static final class Part {
        char kind;
        List<Part> parts = new ArrayList<>();
        int leaf = -1;
    }

    private static final class Leaf {
        List<String> terms = new ArrayList<>();
        int room = 0;
        boolean lit = false;
        TreeSet<Integer> firsts = new TreeSet<>();
        List<List<Integer>> ways = new ArrayList<>();

        int weight() {
            return 1000 / (1 + firsts.size());
        }
    }

    private static final class Model {
        String bytes = "";
        List<Token> tokens = new ArrayList<>();
        List<Word> words = new ArrayList<>();
        List<List<Integer>> sentences = new ArrayList<>();
        Part query = null;
        List<Leaf> leaves = new ArrayList<>();
        List<TreeSet<Integer>> places = new ArrayList<>();
        List<int[]> chosen = new ArrayList<>();
        int limit = 300;
        String printed = "";

        int text(String tape) {
            chosen.clear();
            try {
                List<Token> newTokens = tokensOf(tape);
                List<Word> newWords = wordsOf(newTokens);
                bytes = tape;
                tokens = newTokens;
                words = newWords;
            } catch (Fault fault) {
                return -1 - fault.place;
            }
            sentences.clear();
            for (int w = 0; w < words.size(); w++) {
                if (w == 0 || isParted(words.get(w - 1).last, words.get(w).first)) {
                    sentences.add(new ArrayList<>());
                }
                sentences.get(sentences.size() - 1).add(w);
                words.get(w).sentence = sentences.size() - 1;
            }
            judge();
            return words.size();
        }

        static List<Token> tokensOf(String tape) {
            Pattern one = Pattern.compile("</?[a-z]{1,8}>|&(?:lt|gt|amp);|[ -~&&[^<&]]");
            List<Token> found = new ArrayList<>();
            List<String> open = new ArrayList<>();
            int words = 0;
            boolean inWord = false;
            Matcher matcher = one.matcher(tape);
            int at = 0;
            while (at < tape.length()) {
                if (!matcher.find(at) || matcher.start() != at) {
                    throw new Fault(at);
                }
                Token token = new Token();
                token.bytes = matcher.group();
                token.from = at;
                token.to = matcher.end();
                if (token.bytes.startsWith("</")) {
                    String letters = token.bytes.substring(2);
                    if (open.isEmpty() || !open.remove(open.size() - 1).equals(letters)) {
                        throw new Fault(at);
                    }
                } else if (token.isTag()) {
                    open.add(token.bytes.substring(1));
                    if (open.size() == 9) {
                        throw new Fault(at);
                    }
                }
                if (token.isWordSign()) {
                    words += inWord ? 0 : 1;
                    inWord = true;
                    if (words == 301) {
                        throw new Fault(at);
                    }
                } else if (!token.isTag() || token.isBreak()) {
                    inWord = false;
                }
                found.add(token);
                at = token.to;
            }
            if (!open.isEmpty()) {
                throw new Fault(tape.length());
            }
            return found;
        }

        static List<Word> wordsOf(List<Token> tokens) {
            List<Word> found = new ArrayList<>();
            Word word = null;
            boolean broken = false;
            for (int t = 0; t < tokens.size(); t++) {
                Token token = tokens.get(t);
                if (token.isWordSign()) {
                    if (word == null) {
                        word = new Word();
                        word.first = t;
                        int before = found.isEmpty() ? 0 : found.get(found.size() - 1).position;
                        word.position = found.isEmpty() ? 0 : before + (broken ? 11 : 1);
                        found.add(word);
                        broken = false;
                    }
                    word.last = t;
                    word.letters += token.bytes.toLowerCase();
                } else if (token.isBreak()) {
                    word = null;
                    broken = true;
                } else if (!token.isTag()) {
                    word = null;
                }
            }
            return found;
        }

        boolean isParted(int lastSign, int firstSign) {
            String signs = "";
            for (int t = lastSign + 1; t < firstSign; t++) {
                if (tokens.get(t).isBreak()) {
                    return true;
                }
                signs += tokens.get(t).isTag() ? "" : tokens.get(t).bytes;
            }
            return signs.contains(". ") || signs.contains("! ") || signs.contains("? ");
        }

        int query(String tape) {
            chosen.clear();
            Reader reader = new Reader(tape.toLowerCase());
            try {
                Part part = reader.readAny(0);
                if (reader.at < tape.length()) {
                    throw new Fault(reader.at);
                }
                query = part;
                leaves = reader.leaves;
            } catch (Fault fault) {
                return -1 - fault.place;
            }
            judge();
            return leaves.size();
        }

        int limit(int n) {
            if (n < 0 || n > 300) {
                return -1;
            }
            int before = limit;
            limit = n;
            chosen.clear();
            judge();
            return before;
        }

        void judge() {
            for (Leaf leaf : leaves) {
                leaf.lit = false;
                leaf.ways.clear();
                leaf.firsts.clear();
                findWays(leaf, new ArrayList<>());
            }
            if (isTrue()) {
                light(query);
            }
            places = new ArrayList<>();
            for (Leaf leaf : leaves) {
                for (List<Integer> way : leaf.ways) {
                    if (leaf.lit && leaf.room == 0) {
                        TreeSet<Integer> place = new TreeSet<>();
                        for (int w = way.get(0); w <= way.get(way.size() - 1); w++) {
                            place.add(w);
                        }
                        addPlace(place);
                    } else if (leaf.lit) {
                        for (int w : way) {
                            addPlace(new TreeSet<>(List.of(w)));
                        }
                    }
                }
            }
            places.sort((a, b) -> Integer.compare(a.first(), b.first()));
        }

        void addPlace(TreeSet<Integer> place) {
            List<TreeSet<Integer>> others = new ArrayList<>();
            for (TreeSet<Integer> old : places) {
                if (Collections.disjoint(old, place)) {
                    others.add(old);
                } else {
                    place.addAll(old);
                }
            }
            others.add(place);
            places = others;
        }

        void findWays(Leaf leaf, List<Integer> way) {
            if (way.size() == leaf.terms.size()) {
                leaf.ways.add(new ArrayList<>(way));
                leaf.firsts.add(way.get(0));
                return;
            }
            int from = way.isEmpty() ? 0 : way.get(way.size() - 1) + 1;
            for (int w = from; w < Math.min(limit, words.size()); w++) {
                int first = way.isEmpty() ? words.get(w).position : words.get(way.get(0)).position;
                boolean near = words.get(w).position - first <= leaf.terms.size() - 1 + leaf.room;
                if (near && fits(words.get(w).letters, leaf.terms.get(way.size()))) {
                    way.add(w);
                    findWays(leaf, way);
                    way.remove(way.size() - 1);
                }
            }
        }

        static boolean fits(String word, String term) {
            String letters = term.replaceAll("[*~]", "");
            if (term.endsWith("*")) {
                return word.startsWith(letters);
            }
            return term.endsWith("~") ? distance(word, letters) <= 1 : word.equals(letters);
        }

        static int distance(String a, String b) {
            int[][] d = new int[a.length() + 1][b.length() + 1];
            for (int i = 0; i <= a.length(); i++) {
                for (int j = 0; j <= b.length(); j++) {
                    if (i == 0 || j == 0) {
                        d[i][j] = i + j;
                    } else {
                        int same = a.charAt(i - 1) == b.charAt(j - 1) ? 0 : 1;
                        d[i][j] = Math.min(d[i - 1][j - 1] + same, 1 + Math.min(d[i - 1][j], d[i][j - 1]));
                    }
                }
            }
            return d[a.length()][b.length()];
        }

        boolean isTrue() {
            return query != null && isTrue(query);
        }

        boolean isTrue(Part part) {
            if (part.leaf >= 0) {
                return !leaves.get(part.leaf).ways.isEmpty();
            }
            if (part.kind == '!') {
                return !isTrue(part.parts.get(0));
            }
            boolean all = true;
            boolean any = false;
            for (Part one : part.parts) {
                all = all && isTrue(one);
                any = any || isTrue(one);
            }
            return part.kind == '&' ? all : any;
        }

        void light(Part part) {
            if (part.leaf >= 0) {
                leaves.get(part.leaf).lit = true;
            }
            for (Part one : part.parts) {
                if (part.kind == '&' || part.kind == '|' && isTrue(one)) {
                    light(one);
                }
            }
        }

        boolean isMarked(int w) {
            for (TreeSet<Integer> place : places) {
                if (place.contains(w)) {
                    return true;
                }
            }
            return false;
        }

        int word(int k, int what) {
            if (k < 0 || k >= words.size()) {
                return -1;
            }
            Word word = words.get(k);
            int[] all = {tokens.get(word.first).from, tokens.get(word.last).to, word.position, word.sentence,
                isMarked(k) ? 1 : 0, word.letters.length()};
            return pick(all, what);
        }

        static int pick(int[] all, int what) {
            return what >= 0 && what < all.length ? all[what] : -1;
        }

        int letter(int k, int i) {
            if (k < 0 || k >= words.size() || i < 0 || i >= words.get(k).letters.length()) {
                return -1;
            }
            return words.get(k).letters.charAt(i);
        }

        int score(int s) {
            int sum = 0;
            for (Leaf leaf : leaves) {
                int hits = 0;
                for (int w : sentences.get(s)) {
                    hits += leaf.firsts.contains(w) ? 1 : 0;
                }
                sum += leaf.lit ? leaf.weight() * Math.min(3, hits) : 0;
            }
            return 16 * sum / (16 + sentences.get(s).size());
        }

        int end(int s) {
            int next = s + 1 < sentences.size() ? words.get(sentences.get(s + 1).get(0)).first : tokens.size();
            for (int t = next - 1; ; t--) {
                if (!tokens.get(t).isTag() && !tokens.get(t).bytes.equals(" ")) {
                    return tokens.get(t).to;
                }
            }
        }

        int sentence(int k, int what) {
            if (k < 0 || k >= sentences.size()) {
                return -1;
            }
            int first = sentences.get(k).get(0);
            int[] all = {first, sentences.get(k).size(), score(k), tokens.get(words.get(first).first).from, end(k)};
            return pick(all, what);
        }

        int leaf(int k, int what) {
            if (k < 0 || k >= leaves.size()) {
                return -1;
            }
            Leaf leaf = leaves.get(k);
            int[] all = {leaf.terms.size(), leaf.room, leaf.ways.isEmpty() ? 0 : 1, leaf.lit ? 1 : 0,
                leaf.firsts.size(), leaf.weight()};
            return pick(all, what);
        }

        int place(int k, int what) {
            if (k < 0 || k >= places.size()) {
                return -1;
            }
            return pick(new int[] {places.get(k).first(), places.get(k).last()}, what);
        }

        int passages(int n) {
            if (n < 1 || n > 9) {
                return -1;
            }
            List<Integer> best = new ArrayList<>();
            for (int s = 0; s < sentences.size(); s++) {
                if (score(s) > 0) {
                    best.add(s);
                }
            }
            best.sort((a, b) -> Integer.compare(score(b), score(a)));
            TreeSet<Integer> taken = new TreeSet<>(best.subList(0, Math.min(n, best.size())));
            if (taken.isEmpty() && !sentences.isEmpty()) {
                taken.add(0);
            }
            chosen.clear();
            for (int s : taken) {
                if (chosen.isEmpty() || chosen.get(chosen.size() - 1)[1] != s - 1) {
                    chosen.add(new int[] {s, s});
                }
                chosen.get(chosen.size() - 1)[1] = s;
            }
            return chosen.size();
        }

        int passage(int k, int what) {
            return k < 0 || k >= chosen.size() ? -1 : pick(chosen.get(k), what);
        }

        String print(boolean whole) {
            printed = whole ? putOut(0, bytes.length()) : "";
            for (int k = 0; !whole && k < chosen.size(); k++) {
                printed += k > 0 ? "..." : "";
                printed += putOut(sentence(chosen.get(k)[0], 3), sentence(chosen.get(k)[1], 4));
            }
            return printed;
        }

        List<String> openAt(int place) {
            List<String> open = new ArrayList<>();
            for (Token token : tokens) {
                if (token.from < place && token.bytes.startsWith("</")) {
                    open.remove(open.size() - 1);
                } else if (token.from < place && token.isTag()) {
                    open.add(token.bytes);
                }
            }
            return open;
        }

        /** The place that a token's sign is of, -1 if none. */
        int placeOf(int t) {
            for (int k = 0; k < places.size(); k++) {
                boolean from = words.get(places.get(k).first()).first <= t;
                if (from && t <= words.get(places.get(k).last()).last && !tokens.get(t).isTag()) {
                    return k;
                }
            }
            return -1;
        }

        String putOut(int from, int to) {
            String out = String.join("", openAt(from));
            int row = -1;
            for (int t = 0; t < tokens.size(); t++) {
                Token token = tokens.get(t);
                if (token.from >= from && token.to <= to) {
                    int now = placeOf(t);
                    out += row >= 0 && now != row ? "]" : "";
                    out += now >= 0 && now != row ? "[" : "";
                    out += token.bytes;
                    row = now;
                }
            }
            out += row >= 0 ? "]" : "";
            List<String> behind = openAt(to);
            Collections.reverse(behind);
            for (String tag : behind) {
                out += "</" + tag.substring(1);
            }
            return out;
        }

        int count(int what) {
            return pick(new int[] {words.size(), sentences.size(), places.size(), leaves.size(), chosen.size(),
                printed.length(), Math.max(0, words.size() - limit), bytes.length(), 0}, what);
        }
    }

    /** The query's grammar, rule by rule; each method begins and ends without blanks at its place. */
    private static final class Reader {
        final String bytes;
        final List<Leaf> leaves = new ArrayList<>();
        int at = 0;

        Reader(String bytes) {
            this.bytes = bytes;
        }

        char now() {
            return at < bytes.length() ? bytes.charAt(at) : 0;
        }

        void blanks() {
            while (now() == ' ') {
                at++;
            }
        }

        Part readAny(int depth) {
            return readRow('|', depth);
        }

        Part readRow(char joint, int depth) {
            Part row = new Part();
            row.kind = joint;
            do {
                at += row.parts.isEmpty() ? 0 : 1;
                blanks();
                row.parts.add(joint == '|' ? readRow('&', depth) : readOne(depth));
                blanks();
            } while (now() == joint && at < bytes.length());
            return row;
        }

        Part readOne(int depth) {
            char c = now();
            if ((c == '!' || c == '(') && depth == 8) {
                throw new Fault(at);
            }
            Part part = new Part();
            if (c == '!') {
                at++;
                blanks();
                part.kind = '!';
                part.parts.add(readOne(depth + 1));
                return part;
            }
            if (c == '(') {
                at++;
                part = readAny(depth + 1);
                blanks();
                if (now() != ')') {
                    throw new Fault(at);
                }
                at++;
                return part;
            }
            if (leaves.size() == 12) {
                throw new Fault(at);
            }
            Leaf leaf = readLeaf();
            part.leaf = leaves.size();
            leaves.add(leaf);
            return part;
        }

        Leaf readLeaf() {
            Leaf leaf = new Leaf();
            if (now() != '"') {
                leaf.terms.add(readTerm());
                return leaf;
            }
            at++;
            blanks();
            do {
                if (leaf.terms.size() == 6) {
                    throw new Fault(at);
                }
                leaf.terms.add(readTerm());
                if (now() != ' ' && now() != '"') {
                    throw new Fault(at);
                }
                blanks();
            } while (now() != '"');
            at++;
            if (now() == '/') {
                at++;
                if (!String.valueOf(now()).matches("[0-9]")) {
                    throw new Fault(at);
                }
                leaf.room = now() - '0';
                at++;
            }
            return leaf;
        }

        String readTerm() {
            Matcher matcher = Pattern.compile("[a-z0-9]{1,20}").matcher(bytes);
            if (!matcher.find(at) || matcher.start() != at) {
                throw new Fault(at);
            }
            String term = matcher.group();
            at = matcher.end();
            if (String.valueOf(now()).matches("[a-z0-9]")) {
                throw new Fault(at);
            }
            if (now() == '*' || now() == '~') {
                term += now();
                at++;
            }
            return term;
        }
    }

    /** Makes texts and queries up; most are right, some have a byte changed, left out or put in. */
    private static final class Maker {
        private static final String[] WORDS = {"sun", "sea", "set", "Sun", "suns", "su", "son", "a", "ab", "SEA", "b2",
            "seas", "s", "sunset", "x", "Z"};
        private static final String[] BETWEEN = {" ", " ", " ", " ", ". ", "! ", "?", "? ", ".", ", ", " (", "&amp;",
            " &lt; ", "&gt;", "  ", ".) ", ". - "};
        private static final String[] TAGS = {"b", "i", "p", "em", "p", "pp", "abcdefgh"};
        private static final String ODD = "<>&;/!()|\"*~ .abpsz09[]\t\u00e9";
        private long state;

        Maker(long seed) {
            state = seed;
        }

        int below(int n) {
            state = state * 6364136223846793005L + 1442695040888963407L;
            return (int) ((state >>> 33) % n);
        }

        String of(String[] all) {
            return all[below(all.length)];
        }

        String text() {
            return below(8) == 0 ? manyWords() : someWords();
        }

        /** Some 300 words, a few more or less, so that the last ones stand at the edge. */
        String manyWords() {
            StringBuilder out = new StringBuilder();
            int words = 296 + below(8);
            for (int i = 0; i < words; i++) {
                boolean tagged = below(60) == 0;
                out.append(tagged ? "<p>" : "").append("absZ".charAt(below(4))).append(tagged ? "</p>" : "");
                out.append(below(9) == 0 ? ". " : " ");
            }
            return spoil(out);
        }

        String someWords() {
            StringBuilder out = new StringBuilder();
            List<String> open = new ArrayList<>();
            int openMost = below(10) == 0 ? 9 : 8;
            int openings = below(4) == 0 ? 3 : 1;
            int parts = below(below(5) == 0 ? 200 : 60);
            for (int i = 0; i < parts; i++) {
                int kind = below(11 + openings);
                if (kind < 8) {
                    out.append(of(WORDS)).append(below(6) == 0 ? "" : of(BETWEEN));
                } else if (kind == 9) {
                    out.append(of(BETWEEN));
                } else if (kind > 9 && kind < 10 + openings && open.size() < openMost) {
                    open.add(of(TAGS));
                    out.append('<').append(open.get(open.size() - 1)).append('>');
                } else if (!open.isEmpty()) {
                    out.append("</").append(open.remove(open.size() - 1)).append('>');
                }
            }
            while (!open.isEmpty()) {
                out.append("</").append(open.remove(open.size() - 1)).append('>');
            }
            return spoil(out);
        }

        String query() {
            StringBuilder out = new StringBuilder();
            int kind = below(8);
            if (kind == 0) {
                putMany(out);
            } else if (kind == 1) {
                putDeep(out);
            } else {
                putAny(out, below(4));
            }
            return spoil(out);
        }

        /** Some 12 LEAVES, a few more or less. */
        void putMany(StringBuilder out) {
            int leaves = 10 + below(4);
            for (int i = 0; i < leaves; i++) {
                out.append(i == 0 ? "" : below(4) == 0 ? "&" : " | ").append(below(9) == 0 ? "!" : "");
                if (below(3) == 0) {
                    putPhrase(out);
                } else {
                    putTerm(out);
                }
            }
        }

        /** ! and ( within each other, some eight. */
        void putDeep(StringBuilder out) {
            int depth = 6 + below(4);
            String closing = "";
            for (int i = 0; i < depth; i++) {
                boolean group = below(3) > 0;
                out.append(group ? "(" : "!");
                closing += group ? below(4) == 0 ? "| sun)" : ")" : "";
            }
            putTerm(out);
            out.append(closing);
        }

        void putAny(StringBuilder out, int depth) {
            int parts = 1 + below(3);
            for (int i = 0; i < parts; i++) {
                out.append(i == 0 ? "" : below(2) == 0 ? "|" : " & ");
                putOne(out, depth);
            }
        }

        void putOne(StringBuilder out, int depth) {
            int kind = below(8);
            if (kind == 0 && below(2) == 0) {
                out.append(below(2) == 0 ? "!" : "! ");
                putOne(out, depth - 1);
            } else if (kind < 3 && depth > 0) {
                out.append("(");
                putAny(out, depth - 1);
                out.append(below(2) == 0 ? ")" : " ) ");
            } else if (kind < 5) {
                putPhrase(out);
            } else {
                putTerm(out);
                out.append(below(4) == 0 ? " " : "");
            }
        }

        void putPhrase(StringBuilder out) {
            int terms = 1 + below(below(4) == 0 ? 7 : 3);
            out.append(below(4) == 0 ? "\" " : "\"");
            for (int i = 0; i < terms; i++) {
                out.append(i == 0 ? "" : below(4) == 0 ? "  " : " ");
                putTerm(out);
            }
            out.append(below(4) == 0 ? " \"" : "\"");
            if (below(2) == 0) {
                out.append('/').append(below(10));
            }
        }

        void putTerm(StringBuilder out) {
            out.append(below(60) == 0 ? "abcdefghijklmnopqrstu".substring(below(4)) : of(WORDS));
            int kind = below(6);
            out.append(kind == 0 ? "*" : kind == 1 ? "~" : "");
        }

        String spoil(StringBuilder out) {
            int at = below(out.length() + 1);
            int kind = below(12);
            char odd = ODD.charAt(below(ODD.length()));
            if (kind == 0) {
                out.insert(at, odd);
            } else if (kind == 1 && at < out.length()) {
                out.setCharAt(at, odd);
            } else if (kind == 2 && at < out.length()) {
                out.deleteCharAt(at);
            } else if (kind == 3) {
                out.setLength(at);
            }
            return out.length() > 1000 ? out.substring(0, 1000) : out.toString();
        }
    }
}
