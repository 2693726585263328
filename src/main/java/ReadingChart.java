/**
 * A checker of grammar and style over a text of four short sentences.
 * As in the document, "ahead" is nearer to the beginning of the text and "behind" nearer to its end.
 */
public final class ReadingChart {

    public static final int NONE = -1;
    public static final int BROKEN = 1000;

    private static final int WORDS = 40;
    private static final int ENDINGS = 10;
    private static final int CATEGORIES = 10;
    private static final int LEMMAS = 31;
    private static final int FIRST_GUESSED_LEMMA = 100;
    private static final int READINGS = 4;
    private static final int ROWS = WORDS + ENDINGS;
    private static final int FEATURES = 3;
    private static final int VALUES = 4;

    private static final int STRIKING_RULES = 8;
    private static final int FARTHEST = 5;
    // Each round but the last one strikes at least one reading.
    private static final int ROUNDS = 6 * READINGS + 1;

    private static final int RULES = 16;
    private static final int EQUATIONS = 3;
    private static final int HIGHEST_COST = 20;
    private static final int PARENT = 0;
    private static final int LEFT = 1;
    private static final int RIGHT = 2;
    private static final int SIDES = 3;

    private static final int SENTENCES = 4;
    private static final int SENTENCES_AHEAD = 2;
    private static final int PLACES = 6;
    private static final int SPANS = PLACES * PLACES;
    private static final int SPAN_EDGES = 8;
    private static final int EDGES = SPANS * SPAN_EDGES;
    // Six words make eleven spans of one tree, each with at most nine edges above its first one.
    private static final int NODES = 128;

    private static final int NOUN = 0;
    private static final int PRONOUN = 1;
    // The bits of the features that a noun gives to a pronoun.
    private static final int FIRST_BITS = 3;
    private static final int SECOND_BITS = 12;
    private static final int WHOLE = 9;

    private static final int MENDS_TOGETHER = 2;
    private static final int BOTH_MENDS = 3;
    private static final int PATTERNS = 12;
    private static final int PATTERN_PARTS = 3;

    private final Lexicon lexicon = new Lexicon();
    private final Striking striking = new Striking();
    private final Grammar grammar = new Grammar();
    private final Referring referring = new Referring();
    private final Reader reader = new Reader();
    private final Tree tree = new Tree();
    private final Fragments cuts = new Fragments();
    private final Style style = new Style();
    private final Sentence[] text = new Sentence[SENTENCES];
    private final Sentence trial = new Sentence();
    private final int[] givenNow = new int[PLACES];
    private final int[] mendsFound = new int[MENDS_TOGETHER];
    private int readSoFar = 0;

    public ReadingChart() {
        for (int k = 0; k < SENTENCES; k++) {
            text[k] = new Sentence();
        }
    }

    // ---- lexicon

    public int word(int ending) throws IllegalArgumentException, IllegalStateException {
        if (!isBelow(ending, ENDINGS)) {
            throw new IllegalArgumentException("no such ending");
        }
        if (lexicon.isFull()) {
            throw new IllegalStateException("there are 40 words");
        }
        return lexicon.addWord(ending);
    }

    public int reading(int word, int lemma, int category, int first, int second, int third)
            throws IndexOutOfBoundsException, IllegalArgumentException, IllegalStateException {
        requireWord(word);
        if (!isBelow(lemma, LEMMAS) || !isBelow(category, CATEGORIES) || !areFeatures(first, second, third)) {
            throw new IllegalArgumentException("no such lemma, category or feature");
        }
        if (lexicon.isRowFull(word)) {
            throw new IllegalStateException("the word has 4 readings");
        }
        int told = lexicon.addToRow(word, lemma, category, pack(first, second, third));
        outdateAll();
        return told;
    }

    public int guess(int ending, int category, int first, int second, int third)
            throws IllegalArgumentException, IllegalStateException {
        if (!isBelow(ending, ENDINGS) || !isBelow(category, CATEGORIES) || !areFeatures(first, second, third)) {
            throw new IllegalArgumentException("no such ending, category or feature");
        }
        int row = WORDS + ending;
        if (lexicon.isRowFull(row)) {
            throw new IllegalStateException("the ending has 4 guesses");
        }
        int told = lexicon.addToRow(row, 0, category, pack(first, second, third));
        outdateAll();
        return told;
    }

    public int readings(int word) throws IndexOutOfBoundsException {
        requireWord(word);
        return lexicon.filledIn(lexicon.rowOf(word));
    }

    // ---- striking

    public int sure(int category, int offset, int other) throws IllegalArgumentException, IllegalStateException {
        boolean near = offset >= -FARTHEST && offset <= FARTHEST && offset != 0;
        if (!isBelow(category, CATEGORIES) || !near || !isBelow(other, CATEGORIES)) {
            throw new IllegalArgumentException("no such category or offset");
        }
        if (striking.isFull()) {
            throw new IllegalStateException("there are 8 rules of striking");
        }
        int number = striking.addSure(category, offset, other);
        outdateAll();
        return number;
    }

    public int seen(int category, int direction, int other, int barrier)
            throws IllegalArgumentException, IllegalStateException {
        boolean oneStep = direction == -1 || direction == 1;
        if (!isBelow(category, CATEGORIES) || !oneStep || !isBelow(other, CATEGORIES)
                || !isCategoryOrNone(barrier)) {
            throw new IllegalArgumentException("no such category, direction or barrier");
        }
        if (striking.isFull()) {
            throw new IllegalStateException("there are 8 rules of striking");
        }
        int number = striking.addSeen(category, direction, other, barrier);
        outdateAll();
        return number;
    }

    // ---- grammar

    public int rule(int parent, int left, int right, int head)
            throws IllegalArgumentException, IllegalStateException {
        boolean known = isBelow(parent, CATEGORIES) && isBelow(left, CATEGORIES) && isCategoryOrNone(right);
        if (!known || head != LEFT && head != RIGHT) {
            throw new IllegalArgumentException("no such category or head");
        }
        // Parents above their only part keep rules without a right part from going round in a circle.
        if (right == NONE && (parent <= left || head != LEFT)) {
            throw new IllegalArgumentException("not a rule without a right part");
        }
        if (grammar.isFull()) {
            throw new IllegalStateException("there are 16 rules");
        }
        int number = grammar.addRule(parent, left, right, head);
        outdateAll();
        return number;
    }

    public int equate(int rule, int feature, int one, int other, int cost)
            throws IndexOutOfBoundsException, IllegalArgumentException, IllegalStateException {
        if (!grammar.hasRule(rule)) {
            throw new IndexOutOfBoundsException("no such rule");
        }
        if (!isBelow(feature, FEATURES) || !isBelow(one, SIDES) || !isBelow(other, SIDES) || one == other
                || !isBelow(cost, HIGHEST_COST + 1)) {
            throw new IllegalArgumentException("not an equation");
        }
        if ((one == RIGHT || other == RIGHT) && grammar.rightOf(rule) == NONE) {
            throw new IllegalArgumentException("the rule has no right part");
        }
        if (grammar.isRuleFull(rule)) {
            throw new IllegalStateException("the rule has 3 equations");
        }
        int number = grammar.addEquation(rule, feature, one, other, cost);
        outdateAll();
        return number;
    }

    // ---- text

    public int append(int sentence, int word) throws IndexOutOfBoundsException, IllegalStateException {
        Sentence own = sentenceAt(sentence);
        requireWord(word);
        if (own.isFull()) {
            throw new IllegalStateException("the sentence has 6 words");
        }
        own.addWord(word);
        own.outdate();
        return own.size;
    }

    public int change(int sentence, int place, int word) throws IndexOutOfBoundsException {
        Sentence own = sentenceAt(sentence);
        requirePlace(own, place);
        requireWord(word);
        int before = own.wordIn(place);
        if (before != word) {
            own.putWord(place, word);
            own.outdate();
        }
        return before;
    }

    public int remove(int sentence, int place) throws IndexOutOfBoundsException {
        Sentence own = sentenceAt(sentence);
        requirePlace(own, place);
        int before = own.wordIn(place);
        own.takeOut(place);
        own.outdate();
        return before;
    }

    public int length(int sentence) throws IndexOutOfBoundsException {
        return sentenceAt(sentence).size;
    }

    public int wordAt(int sentence, int place) throws IndexOutOfBoundsException {
        Sentence own = sentenceAt(sentence);
        requirePlace(own, place);
        return own.wordIn(place);
    }

    public int left(int sentence, int place) throws IndexOutOfBoundsException {
        Sentence own = sentenceAt(sentence);
        requirePlace(own, place);
        strikeAsNeeded(own);
        return own.leftIn(place);
    }

    public int referent(int sentence, int place) throws IndexOutOfBoundsException {
        Sentence own = sentenceAt(sentence);
        requirePlace(own, place);
        strikeUpTo(sentence);
        if (!refers(sentence, own, place)) {
            return NONE;
        }
        return 10 * referring.sentence + referring.place;
    }

    // ---- the chart

    public int edges(int sentence, int from, int many) throws IndexOutOfBoundsException {
        requireSpan(sentenceAt(sentence), from, many);
        Chart chart = readAsNeeded(sentence);
        return chart.edgesOf(spanOf(from, many));
    }

    public int edge(int sentence, int from, int many, int edge) throws IndexOutOfBoundsException {
        requireSpan(sentenceAt(sentence), from, many);
        Chart chart = readAsNeeded(sentence);
        int found = edgeAt(chart, spanOf(from, many), edge);
        int features = chart.featuresOf(found);
        return 1000 * chart.categoryOf(found) + 100 * valueOf(features, 0) + 10 * valueOf(features, 1)
                + valueOf(features, 2);
    }

    public int edgeCost(int sentence, int from, int many, int edge) throws IndexOutOfBoundsException {
        requireSpan(sentenceAt(sentence), from, many);
        Chart chart = readAsNeeded(sentence);
        return chart.priceOf(edgeAt(chart, spanOf(from, many), edge));
    }

    public int cost(int sentence) throws IndexOutOfBoundsException {
        return readAsNeeded(sentence).wholePrice();
    }

    public int costAnew(int sentence) throws IndexOutOfBoundsException {
        Chart chart = readAsNeeded(sentence);
        tree.grow(chart);
        return tree.priceAnew(chart, grammar);
    }

    public int faults(int sentence) throws IndexOutOfBoundsException {
        Chart chart = readAsNeeded(sentence);
        tree.grow(chart);
        return tree.countRelaxed(chart);
    }

    public int fault(int sentence, int fault) throws IndexOutOfBoundsException {
        Chart chart = readAsNeeded(sentence);
        int found = faultAt(chart, fault);
        int edge = found / EQUATIONS;
        return 1000 * chart.ruleOf(edge) + 100 * (found % EQUATIONS) + 10 * placeOfEdge(edge) + wordsOfEdge(edge);
    }

    public int fragments(int sentence) throws IndexOutOfBoundsException {
        cuts.cut(readAsNeeded(sentence));
        return cuts.pieces();
    }

    public int fragment(int sentence, int fragment) throws IndexOutOfBoundsException {
        cuts.cut(readAsNeeded(sentence));
        if (!isBelow(fragment, cuts.pieces())) {
            throw new IndexOutOfBoundsException("no such fragment");
        }
        int place = cuts.placeOf(fragment);
        return 10 * place + cuts.wordsFrom(place);
    }

    // ---- mends

    public int mend(int sentence, int fault) throws IndexOutOfBoundsException {
        Chart chart = readAsNeeded(sentence);
        return mendOf(sentence, faultAt(chart, fault));
    }

    public int best(int sentence) throws IndexOutOfBoundsException {
        Chart chart = readAsNeeded(sentence);
        tree.grow(chart);
        mendsFound[0] = mendOf(sentence, tree.findRelaxed(chart, 0));
        mendsFound[1] = mendOf(sentence, tree.findRelaxed(chart, 1));
        return chosenOf(sentence);
    }

    public int mendAll(int sentence) throws IndexOutOfBoundsException {
        Chart chart = readAsNeeded(sentence);
        tree.grow(chart);
        mendsFound[0] = mendOf(sentence, tree.findRelaxed(chart, 0));
        mendsFound[1] = mendOf(sentence, tree.findRelaxed(chart, 1));
        int chosen = chosenOf(sentence);
        if (chosen != 0) {
            Sentence own = sentenceAt(sentence);
            putMend(own, mendIn(chosen, 0));
            putMend(own, mendIn(chosen, 1));
            own.outdate();
        }
        return readAsNeeded(sentence).wholePrice();
    }

    public int reads() {
        return readSoFar;
    }

    // ---- style

    public int pattern(int first, int second, int third, int of)
            throws IndexOutOfBoundsException, IllegalArgumentException, IllegalStateException {
        if (of != NONE && !style.hasPattern(of)) {
            throw new IndexOutOfBoundsException("no such pattern");
        }
        if (!isBelow(first, CATEGORIES) || !isCategoryOrNone(second) || !isCategoryOrNone(third)
                || second == NONE && third != NONE) {
            throw new IllegalArgumentException("not a pattern");
        }
        if (style.isFull()) {
            throw new IllegalStateException("there are 12 patterns");
        }
        return style.addPattern(first, second, third, of);
    }

    public boolean off(int pattern, int word) throws IndexOutOfBoundsException {
        if (!style.hasPattern(pattern)) {
            throw new IndexOutOfBoundsException("no such pattern");
        }
        if (word == NONE) {
            return style.switchAltogether(pattern);
        }
        requireWord(word);
        return style.switchFor(pattern, word);
    }

    public int styleFaults(int sentence) throws IndexOutOfBoundsException {
        Sentence own = sentenceAt(sentence);
        strikeAsNeeded(own);
        return style.countFaults(own);
    }

    public int styleFault(int sentence, int fault) throws IndexOutOfBoundsException {
        Sentence own = sentenceAt(sentence);
        strikeAsNeeded(own);
        int found = style.faultNumber(own, fault);
        if (found == NONE) {
            throw new IndexOutOfBoundsException("no such fault of style");
        }
        return found;
    }

    // ---- what is asked of arguments

    private static boolean isBelow(int value, int limit) {
        return value >= 0 && value < limit;
    }

    private static boolean isCategoryOrNone(int value) {
        return value == NONE || isBelow(value, CATEGORIES);
    }

    private static boolean areFeatures(int first, int second, int third) {
        return isBelow(first, VALUES) && isBelow(second, VALUES) && isBelow(third, VALUES);
    }

    private void requireWord(int word) {
        if (!lexicon.hasWord(word)) {
            throw new IndexOutOfBoundsException("no such word");
        }
    }

    private Sentence sentenceAt(int number) {
        if (number < 0 || number >= text.length) {
            throw new IndexOutOfBoundsException("no such sentence");
        }
        return text[number];
    }

    private static void requirePlace(Sentence own, int place) {
        if (!isBelow(place, own.size)) {
            throw new IndexOutOfBoundsException("no such place");
        }
    }

    private static void requireSpan(Sentence own, int from, int many) {
        if (!isBelow(from, own.size) || many < 1 || many > own.size - from) {
            throw new IndexOutOfBoundsException("no such span");
        }
    }

    private static int edgeAt(Chart chart, int span, int edge) {
        if (!isBelow(edge, chart.edgesOf(span))) {
            throw new IndexOutOfBoundsException("no such edge");
        }
        return span * SPAN_EDGES + edge;
    }

    private int faultAt(Chart chart, int fault) {
        tree.grow(chart);
        int found = tree.findRelaxed(chart, fault);
        if (found == NONE) {
            throw new IndexOutOfBoundsException("no such fault");
        }
        return found;
    }

    // ---- features, two bits for each of the three

    private static int pack(int first, int second, int third) {
        return first | second << 2 | third << 4;
    }

    private static int valueOf(int features, int feature) {
        return features >> 2 * feature & 3;
    }

    private static int withValue(int features, int feature, int value) {
        return features & ~(3 << 2 * feature) | value << 2 * feature;
    }

    // ---- spans, numbered by their first place and how many words they span

    private static int spanOf(int from, int many) {
        return from * PLACES + many - 1;
    }

    private static int placeOfEdge(int edge) {
        return edge / SPAN_EDGES / PLACES;
    }

    private static int wordsOfEdge(int edge) {
        return edge / SPAN_EDGES % PLACES + 1;
    }

    // ---- reading anew

    private void outdateAll() {
        for (int k = 0; k < text.length; k++) {
            text[k].outdate();
        }
    }

    private void strikeAsNeeded(Sentence own) {
        if (!own.struck) {
            striking.strike(lexicon, own);
        }
    }

    /** Strikes in a sentence and in those to which its words can refer. */
    private void strikeUpTo(int number) {
        for (int k = Math.max(0, number - SENTENCES_AHEAD); k <= number && k < text.length; k++) {
            if (!text[k].struck) {
                striking.strike(lexicon, text[k]);
            }
        }
    }

    /** Whether a word of this sentence, or of one tried in its place, refers; the referring then holds to what. */
    private boolean refers(int number, Sentence own, int place) {
        int pronoun = own.firstOf(place, PRONOUN);
        if (pronoun == NONE) {
            return false;
        }
        int wanted = own.featuresOf(place, pronoun);
        if (referring.lookIn(own, number, place, wanted)) {
            return true;
        }
        for (int k = 1; k <= SENTENCES_AHEAD && k <= number; k++) {
            Sentence ahead = sentenceAt(number - k);
            if (referring.lookIn(ahead, number - k, ahead.size, wanted)) {
                return true;
            }
        }
        return false;
    }

    private void findGiven(int number, Sentence own) {
        for (int place = 0; place < givenNow.length; place++) {
            givenNow[place] = place < own.size && refers(number, own, place) ? referring.given : 0;
        }
    }

    private Chart readAsNeeded(int number) {
        Sentence own = sentenceAt(number);
        strikeUpTo(number);
        findGiven(number, own);
        if (own.outdated || !own.isGiven(givenNow)) {
            own.giveAll(givenNow);
            reader.read(grammar, own);
            readSoFar++;
        }
        return own.chart;
    }

    // ---- finding mends; the sentence was read as needed ahead of all of these

    /** The mend of a relaxed equation, as 100 times the place and the word. */
    private int mendOf(int number, int relaxed) {
        for (int side = RIGHT; relaxed != NONE && side >= LEFT; side--) {
            int mend = mendToTry(sentenceAt(number), relaxed, side);
            if (mend != NONE && priceWith(number, mend, NONE) < sentenceAt(number).chart.wholePrice()) {
                return mend;
            }
        }
        return NONE;
    }

    /** What the head of a part is to become so that a relaxed equation about the part would hold. */
    private int mendToTry(Sentence own, int relaxed, int side) {
        int edge = relaxed / EQUATIONS;
        int equation = relaxed % EQUATIONS;
        int rule = own.chart.ruleOf(edge);
        int wanted = NONE;
        if (grammar.oneOf(rule, equation) == side) {
            wanted = own.chart.otherThen(edge, equation);
        } else if (grammar.otherOf(rule, equation) == side) {
            wanted = own.chart.oneThen(edge, equation);
        }
        if (wanted == NONE) {
            return NONE;
        }
        int head = own.chart.headOf(own.chart.partOf(edge, side), grammar);
        int place = placeOfEdge(head);
        int reading = own.chart.readingOf(head);
        int features = withValue(own.featuresOf(place, reading), grammar.featureOf(rule, equation), wanted);
        int word = lexicon.lowestTold(lexicon.lemmaOf(own.wordIn(place), reading), own.categoryOf(place, reading),
                features);
        return word == NONE ? NONE : 100 * place + word;
    }

    /** What the sentence would cost with these mends; it is tried beside it, so that what it found is kept. */
    private int priceWith(int number, int mend, int another) {
        trial.copyWords(sentenceAt(number));
        putMend(trial, mend);
        putMend(trial, another);
        striking.strike(lexicon, trial);
        findGiven(number, trial);
        trial.giveAll(givenNow);
        reader.read(grammar, trial);
        return trial.chart.wholePrice();
    }

    private static void putMend(Sentence own, int mend) {
        if (mend != NONE) {
            own.putWord(mend / 100, mend % 100);
        }
    }

    /** The mend of the first or the second fault, if it is in the set. */
    private int mendIn(int set, int fault) {
        return isBelow(fault, mendsFound.length) && (set >> fault & 1) != 0 ? mendsFound[fault] : NONE;
    }

    private boolean canBePut(int set) {
        for (int k = 0; k < mendsFound.length; k++) {
            if ((set >> k & 1) != 0 && mendsFound[k] == NONE) {
                return false;
            }
        }
        return set != BOTH_MENDS || mendsFound[0] / 100 != mendsFound[1] / 100;
    }

    /** The best set of the mends found. */
    private int chosenOf(int number) {
        int least = sentenceAt(number).chart.wholePrice();
        int chosen = 0;
        // No set has fewer mends than a lower one: so the first one with the least cost is due.
        for (int set = 1; set <= BOTH_MENDS; set++) {
            if (canBePut(set)) {
                int price = priceWith(number, mendIn(set, 0), mendIn(set, 1));
                if (price < least) {
                    least = price;
                    chosen = set;
                }
            }
        }
        return chosen;
    }

    /** Words and their readings; a row of readings for each word, and one behind them for each ending. */
    private static final class Lexicon {
        private int size = 0;
        private final int[] ending = new int[WORDS];
        private final int[] filled = new int[ROWS];
        private final int[] lemma = new int[ROWS * READINGS];
        private final int[] category = new int[ROWS * READINGS];
        private final int[] features = new int[ROWS * READINGS];

        boolean hasWord(int word) {
            return isBelow(word, size);
        }

        boolean isFull() {
            return size >= WORDS;
        }

        int addWord(int itsEnding) {
            if (!isBelow(size, WORDS)) {
                return NONE;
            }
            ending[size] = itsEnding;
            size++;
            return size - 1;
        }

        boolean isRowFull(int row) {
            return !isBelow(row, ROWS) || filled[row] >= READINGS;
        }

        int addToRow(int row, int itsLemma, int itsCategory, int itsFeatures) {
            if (isRowFull(row)) {
                return NONE;
            }
            int slot = row * READINGS + filled[row];
            lemma[slot] = itsLemma;
            category[slot] = itsCategory;
            features[slot] = itsFeatures;
            filled[row]++;
            return filled[row];
        }

        /** The row that holds the readings of a word: its own, or if that is empty, that of its ending. */
        int rowOf(int word) {
            if (word < 0 || word >= size) {
                return NONE;
            }
            return filled[word] > 0 ? word : WORDS + ending[word];
        }

        int filledIn(int row) {
            return row >= 0 && row < ROWS ? filled[row] : 0;
        }

        int categoryIn(int row, int reading) {
            boolean isThere = row >= 0 && row < ROWS && reading >= 0 && reading < filled[row];
            return isThere ? category[row * READINGS + reading] : NONE;
        }

        int featuresIn(int row, int reading) {
            boolean isThere = row >= 0 && row < ROWS && reading >= 0 && reading < filled[row];
            return isThere ? features[row * READINGS + reading] : 0;
        }

        int lemmaOf(int word, int reading) {
            int row = rowOf(word);
            if (row != word) {
                return FIRST_GUESSED_LEMMA + word;
            }
            return reading >= 0 && reading < filledIn(row) ? lemma[row * READINGS + reading] : NONE;
        }

        /** The lowest word that was told such a reading; rows of endings are no words. */
        int lowestTold(int itsLemma, int itsCategory, int itsFeatures) {
            for (int word = 0; word < size; word++) {
                for (int k = 0; k < filled[word]; k++) {
                    int slot = word * READINGS + k;
                    if (lemma[slot] == itsLemma && category[slot] == itsCategory && features[slot] == itsFeatures) {
                        return word;
                    }
                }
            }
            return NONE;
        }
    }

    /** The words of a sentence, their readings, which of these are left, and what reading the sentence found. */
    private static final class Sentence {
        private int size = 0;
        private final int[] words = new int[PLACES];
        private final int[] left = new int[PLACES];
        private final int[] given = new int[PLACES];
        // The readings of the words, four slots for each place; as they were when striking began.
        private final int[] category = new int[PLACES * READINGS];
        private final int[] features = new int[PLACES * READINGS];
        private final Chart chart = new Chart();
        private boolean struck = false;
        private boolean outdated = true;

        boolean isFull() {
            return size >= PLACES;
        }

        void outdate() {
            struck = false;
            outdated = true;
        }

        int wordIn(int place) {
            return place >= 0 && place < size ? words[place] : NONE;
        }

        int leftIn(int place) {
            return place >= 0 && place < size ? left[place] : 0;
        }

        void addWord(int word) {
            if (size >= 0 && size < words.length) {
                words[size] = word;
                size++;
            }
        }

        void putWord(int place, int word) {
            if (place >= 0 && place < size) {
                words[place] = word;
            }
        }

        void takeOut(int place) {
            if (place >= 0 && place < size) {
                for (int k = place; k + 1 < size; k++) {
                    words[k] = words[k + 1];
                }
                size--;
            }
        }

        void copyWords(Sentence from) {
            size = from.size;
            for (int k = 0; k < size; k++) {
                words[k] = from.words[k];
            }
        }

        void leaveAll(Lexicon lexicon) {
            for (int place = 0; place < size; place++) {
                int row = lexicon.rowOf(words[place]);
                int many = Math.min(READINGS, lexicon.filledIn(row));
                left[place] = (1 << many) - 1;
                for (int k = 0; k < many; k++) {
                    category[place * READINGS + k] = lexicon.categoryIn(row, k);
                    features[place * READINGS + k] = lexicon.featuresIn(row, k);
                }
            }
        }

        void strikeOut(int place, int set) {
            if (place >= 0 && place < size) {
                left[place] &= ~set;
            }
        }

        boolean isLeft(int place, int reading) {
            boolean isThere = place >= 0 && place < size && reading >= 0 && reading < READINGS;
            return isThere && (left[place] >> reading & 1) != 0;
        }

        int categoryOf(int place, int reading) {
            boolean isThere = place >= 0 && place < size && reading >= 0 && reading < READINGS;
            return isThere ? category[place * READINGS + reading] : NONE;
        }

        int featuresOf(int place, int reading) {
            boolean isThere = place >= 0 && place < size && reading >= 0 && reading < READINGS;
            return isThere ? features[place * READINGS + reading] : 0;
        }

        /** The readings of a category left at a place, as a set. */
        int leftOf(int place, int wanted) {
            int set = 0;
            if (place >= 0 && place < size) {
                for (int k = 0; k < READINGS; k++) {
                    if ((left[place] >> k & 1) != 0 && category[place * READINGS + k] == wanted) {
                        set |= 1 << k;
                    }
                }
            }
            return set;
        }

        /** The first reading of a category left at a place. */
        int firstOf(int place, int wanted) {
            int set = leftOf(place, wanted);
            for (int k = 0; k < READINGS; k++) {
                if ((set >> k & 1) != 0) {
                    return k;
                }
            }
            return NONE;
        }

        boolean isGiven(int[] row) {
            for (int k = 0; k < given.length && k < row.length; k++) {
                if (given[k] != row[k]) {
                    return false;
                }
            }
            return true;
        }

        void giveAll(int[] row) {
            for (int k = 0; k < given.length && k < row.length; k++) {
                given[k] = row[k];
            }
        }

        /** The features of a reading, a pronoun's open ones as the noun has them to which it refers. */
        int featuresAsGiven(int place, int reading) {
            if (place < 0 || place >= size || reading < 0 || reading >= READINGS) {
                return 0;
            }
            int slot = place * READINGS + reading;
            int found = features[slot];
            if (category[slot] == PRONOUN) {
                found |= (found & FIRST_BITS) == 0 ? given[place] & FIRST_BITS : 0;
                found |= (found & SECOND_BITS) == 0 ? given[place] & SECOND_BITS : 0;
            }
            return found;
        }
    }

    /** The rules of striking. */
    private static final class Striking {
        private int size = 0;
        private final boolean[] isSure = new boolean[STRIKING_RULES];
        private final int[] category = new int[STRIKING_RULES];
        private final int[] step = new int[STRIKING_RULES];
        private final int[] other = new int[STRIKING_RULES];
        private final int[] barrier = new int[STRIKING_RULES];

        boolean isFull() {
            return size >= STRIKING_RULES;
        }

        int addSure(int itsCategory, int offset, int itsOther) {
            return add(true, itsCategory, offset, itsOther, NONE);
        }

        int addSeen(int itsCategory, int direction, int itsOther, int itsBarrier) {
            return add(false, itsCategory, direction, itsOther, itsBarrier);
        }

        private int add(boolean asSure, int itsCategory, int itsStep, int itsOther, int itsBarrier) {
            if (!isBelow(size, STRIKING_RULES)) {
                return NONE;
            }
            isSure[size] = asSure;
            category[size] = itsCategory;
            step[size] = itsStep;
            other[size] = itsOther;
            barrier[size] = itsBarrier;
            size++;
            return size - 1;
        }

        void strike(Lexicon lexicon, Sentence own) {
            own.leaveAll(lexicon);
            boolean again = true;
            for (int round = 0; again && round < ROUNDS; round++) {
                again = false;
                for (int rule = 0; rule < size; rule++) {
                    for (int place = 0; place < own.size; place++) {
                        int set = own.leftOf(place, category[rule]);
                        boolean hasOthers = set != own.leftIn(place);
                        if (set != 0 && hasOthers && (isSure[rule] ? holdsSure(rule, own, place)
                                : holdsSeen(rule, own, place))) {
                            own.strikeOut(place, set);
                            again = true;
                        }
                    }
                }
            }
            own.struck = true;
        }

        private boolean holdsSure(int rule, Sentence own, int place) {
            int there = place + step[rule];
            int set = own.leftIn(there);
            return set != 0 && own.leftOf(there, other[rule]) == set;
        }

        private boolean holdsSeen(int rule, Sentence own, int place) {
            int there = place + step[rule];
            for (int k = 0; k < PLACES && there >= 0 && there < own.size; k++) {
                if (barrier[rule] != other[rule] && own.leftOf(there, barrier[rule]) != 0) {
                    return false;
                }
                if (own.leftOf(there, other[rule]) != 0) {
                    return true;
                }
                there += step[rule];
            }
            return false;
        }
    }

    /** The noun to which a pronoun refers, as it was found last. */
    private static final class Referring {
        private int sentence = NONE;
        private int place = NONE;
        private int given = 0;

        /** Looks for a noun that agrees, from the place ahead of this one to the beginning of the sentence. */
        boolean lookIn(Sentence there, int number, int behind, int wanted) {
            for (int k = Math.min(behind, there.size) - 1; k >= 0; k--) {
                int nouns = there.leftOf(k, NOUN);
                for (int reading = 0; reading < READINGS; reading++) {
                    int features = there.featuresOf(k, reading);
                    if ((nouns >> reading & 1) != 0 && agree(features, wanted)) {
                        sentence = number;
                        place = k;
                        given = features & (FIRST_BITS | SECOND_BITS);
                        return true;
                    }
                }
            }
            return false;
        }

        private static boolean agree(int noun, int pronoun) {
            int both = noun ^ pronoun;
            boolean firstFits = (both & FIRST_BITS) == 0 || (noun & FIRST_BITS) == 0 || (pronoun & FIRST_BITS) == 0;
            boolean secondFits = (both & SECOND_BITS) == 0 || (noun & SECOND_BITS) == 0
                    || (pronoun & SECOND_BITS) == 0;
            return firstFits && secondFits;
        }
    }

    /** The rules of grammar, and what using the last one of them gave. */
    private static final class Grammar {
        private int size = 0;
        private final int[] parent = new int[RULES];
        private final int[] leftPart = new int[RULES];
        private final int[] rightPart = new int[RULES];
        private final int[] headSide = new int[RULES];
        // The rules without a right part, by rising parents, of one parent by rising numbers.
        private int singles = 0;
        private final int[] single = new int[RULES];
        private final int[] equations = new int[RULES];
        private final int[] feature = new int[RULES * EQUATIONS];
        private final int[] one = new int[RULES * EQUATIONS];
        private final int[] other = new int[RULES * EQUATIONS];
        private final int[] price = new int[RULES * EQUATIONS];
        private final int[] sides = new int[SIDES];
        private int paid = 0;
        private int relaxed = 0;

        boolean isFull() {
            return size >= RULES;
        }

        boolean hasRule(int rule) {
            return rule >= 0 && rule < size;
        }

        boolean isRuleFull(int rule) {
            return !hasRule(rule) || equations[rule] >= EQUATIONS;
        }

        int addRule(int itsParent, int itsLeft, int itsRight, int itsHead) {
            if (!isBelow(size, RULES)) {
                return NONE;
            }
            parent[size] = itsParent;
            leftPart[size] = itsLeft;
            rightPart[size] = itsRight;
            headSide[size] = itsHead;
            size++;
            if (itsRight == NONE) {
                addSingle(size - 1, itsParent);
            }
            return size - 1;
        }

        private void addSingle(int rule, int itsParent) {
            int slot = Math.min(singles, RULES - 1);
            while (slot > 0 && parentOf(single[slot - 1]) > itsParent) {
                single[slot] = single[slot - 1];
                slot--;
            }
            single[slot] = rule;
            singles++;
        }

        int addEquation(int rule, int itsFeature, int itsOne, int itsOther, int itsPrice) {
            if (isRuleFull(rule)) {
                return NONE;
            }
            int slot = rule * EQUATIONS + equations[rule];
            feature[slot] = itsFeature;
            one[slot] = itsOne;
            other[slot] = itsOther;
            price[slot] = itsPrice;
            equations[rule]++;
            return equations[rule] - 1;
        }

        int singleAt(int number) {
            return number >= 0 && number < singles && number < RULES ? single[number] : NONE;
        }

        int parentOf(int rule) {
            return rule >= 0 && rule < size ? parent[rule] : NONE;
        }

        int leftOf(int rule) {
            return rule >= 0 && rule < size ? leftPart[rule] : NONE;
        }

        int rightOf(int rule) {
            return rule >= 0 && rule < size ? rightPart[rule] : NONE;
        }

        int headOf(int rule) {
            return rule >= 0 && rule < size ? headSide[rule] : LEFT;
        }

        private int slotOf(int rule, int equation) {
            boolean isTold = hasRule(rule) && equation >= 0 && equation < equations[rule];
            return isTold ? rule * EQUATIONS + equation : NONE;
        }

        int featureOf(int rule, int equation) {
            int slot = slotOf(rule, equation);
            return isBelow(slot, feature.length) ? feature[slot] : 0;
        }

        int oneOf(int rule, int equation) {
            int slot = slotOf(rule, equation);
            return isBelow(slot, one.length) ? one[slot] : NONE;
        }

        int otherOf(int rule, int equation) {
            int slot = slotOf(rule, equation);
            return isBelow(slot, other.length) ? other[slot] : NONE;
        }

        /** Uses a rule on its parts' features; false if an equation that is never relaxed does not hold. */
        boolean unify(int rule, int leftFeatures, int rightFeatures) {
            sides[PARENT] = 0;
            sides[LEFT] = leftFeatures;
            sides[RIGHT] = rightFeatures;
            paid = 0;
            relaxed = 0;
            if (rule < 0 || rule >= size) {
                return false;
            }
            for (int k = 0; k < equations[rule] && k < EQUATIONS; k++) {
                int slot = rule * EQUATIONS + k;
                if (!settle(k, slot, one[slot], other[slot])) {
                    return false;
                }
            }
            return true;
        }

        private boolean settle(int equation, int slot, int sideOne, int sideOther) {
            if (sideOne < 0 || sideOne >= SIDES || sideOther < 0 || sideOther >= SIDES || slot >= price.length) {
                return false;
            }
            int shift = 2 * feature[slot];
            int valueOne = sides[sideOne] >> shift & 3;
            int valueOther = sides[sideOther] >> shift & 3;
            if (valueOne == 0 || valueOther == 0) {
                // One of both is open, so that joining their bits gives each what the other one has.
                sides[sideOne] |= valueOther << shift;
                sides[sideOther] |= valueOne << shift;
                return true;
            }
            if (valueOne == valueOther) {
                return true;
            }
            paid += price[slot];
            // Five bits for each equation: that it was relaxed, and both features then.
            relaxed |= (16 | valueOne << 2 | valueOther) << 5 * equation;
            return price[slot] > 0;
        }

        int parentFeatures() {
            return sides[PARENT];
        }
    }

    /** The edges of a sentence; a row of them for each span, and an edge's number is that of its place in all rows. */
    private static final class Chart {
        private int size = 0;
        private final int[] filled = new int[SPANS];
        private final int[] category = new int[EDGES];
        private final int[] features = new int[EDGES];
        private final int[] price = new int[EDGES];
        private final int[] rule = new int[EDGES];
        private final int[] leftPart = new int[EDGES];
        private final int[] rightPart = new int[EDGES];
        private final int[] relaxed = new int[EDGES];

        void clear(int words) {
            size = words;
            for (int k = 0; k < filled.length; k++) {
                filled[k] = 0;
            }
        }

        int edgesOf(int span) {
            return span >= 0 && span < SPANS ? filled[span] : 0;
        }

        /** The edge's number if it was added, so that the caller can tell how it was made; NONE if it was left away. */
        int add(int span, int itsCategory, int itsFeatures, int itsPrice) {
            if (span < 0 || span >= SPANS || filled[span] < 0 || filled[span] > SPAN_EDGES) {
                return NONE;
            }
            int first = span * SPAN_EDGES;
            int edge = first;
            while (edge < first + filled[span] && (category[edge] != itsCategory || features[edge] != itsFeatures)) {
                edge++;
            }
            boolean isNew = edge == first + filled[span];
            if (isNew ? filled[span] == SPAN_EDGES : itsPrice >= price[edge]) {
                return NONE;
            }
            filled[span] += isNew ? 1 : 0;
            category[edge] = itsCategory;
            features[edge] = itsFeatures;
            price[edge] = itsPrice;
            return edge;
        }

        /**
         * How an edge was made; of the reading of a word, NONE, and its number as the left part.
         * Parts are kept by number: none changes once it was used, as rules without a right part go upwards.
         */
        void tellUse(int edge, int itsRule, int itsLeft, int itsRight, int itsRelaxed) {
            if (edge >= 0 && edge < EDGES) {
                rule[edge] = itsRule;
                leftPart[edge] = itsLeft;
                rightPart[edge] = itsRight;
                relaxed[edge] = itsRelaxed;
            }
        }

        int categoryOf(int edge) {
            return edge >= 0 && edge < EDGES ? category[edge] : NONE;
        }

        int featuresOf(int edge) {
            return edge >= 0 && edge < EDGES ? features[edge] : 0;
        }

        int priceOf(int edge) {
            return edge >= 0 && edge < EDGES ? price[edge] : 0;
        }

        /** The rule by which an edge was made; NONE for the reading of a word. */
        int ruleOf(int edge) {
            return edge >= 0 && edge < EDGES ? rule[edge] : NONE;
        }

        int partOf(int edge, int side) {
            if (edge < 0 || edge >= EDGES || rule[edge] == NONE) {
                return NONE;
            }
            return side == RIGHT ? rightPart[edge] : leftPart[edge];
        }

        int readingOf(int edge) {
            return edge >= 0 && edge < EDGES && rule[edge] == NONE ? leftPart[edge] : NONE;
        }

        /** The edge of the word that is the head. */
        int headOf(int edge, Grammar grammar) {
            int head = edge;
            for (int k = 0; k < NODES && ruleOf(head) != NONE; k++) {
                head = partOf(head, grammar.headOf(ruleOf(head)));
            }
            return head;
        }

        private int relaxedBits(int edge, int equation) {
            return isBelow(edge, EDGES) ? relaxed[edge] >> 5 * equation & 31 : 0;
        }

        boolean isRelaxed(int edge, int equation) {
            return relaxedBits(edge, equation) != 0;
        }

        int oneThen(int edge, int equation) {
            return relaxedBits(edge, equation) >> 2 & 3;
        }

        int otherThen(int edge, int equation) {
            return relaxedBits(edge, equation) & 3;
        }

        /** The first edge with the least cost of a span; of one category, or with NONE, of all. */
        int cheapest(int span, int ofCategory) {
            if (span < 0 || span >= SPANS) {
                return NONE;
            }
            int first = span * SPAN_EDGES;
            int found = NONE;
            for (int edge = first; edge < first + filled[span] && edge < EDGES; edge++) {
                boolean fits = ofCategory == NONE || category[edge] == ofCategory;
                if (fits && (found == NONE || price[edge] < price[found])) {
                    found = edge;
                }
            }
            return found;
        }

        int wholeEdge() {
            return size == 0 ? NONE : cheapest(spanOf(0, size), WHOLE);
        }

        int wholePrice() {
            int whole = wholeEdge();
            return whole == NONE ? BROKEN : priceOf(whole);
        }
    }

    /** Fills a chart from the words up. */
    private static final class Reader {

        void read(Grammar grammar, Sentence own) {
            Chart chart = own.chart;
            chart.clear(own.size);
            for (int many = 1; many <= own.size; many++) {
                for (int from = 0; from + many <= own.size; from++) {
                    int span = spanOf(from, many);
                    if (many == 1) {
                        readWord(own, from);
                    }
                    for (int part = 1; part < many; part++) {
                        for (int rule = 0; rule < grammar.size; rule++) {
                            if (grammar.rightOf(rule) != NONE) {
                                use(grammar, rule, chart, span, spanOf(from, part), spanOf(from + part, many - part));
                            }
                        }
                    }
                    for (int k = 0; k < grammar.singles; k++) {
                        use(grammar, grammar.singleAt(k), chart, span, span, NONE);
                    }
                }
            }
            own.outdated = false;
        }

        private static void readWord(Sentence own, int place) {
            for (int k = 0; k < READINGS; k++) {
                if (own.isLeft(place, k)) {
                    int features = own.featuresAsGiven(place, k);
                    int edge = own.chart.add(spanOf(place, 1), own.categoryOf(place, k), features, 0);
                    own.chart.tellUse(edge, NONE, k, NONE, 0);
                }
            }
        }

        /** Uses a rule on all edges of both spans; for a rule without a right part the right span is NONE. */
        private static void use(Grammar grammar, int rule, Chart chart, int span, int leftSpan, int rightSpan) {
            int lefts = chart.edgesOf(leftSpan);
            int rights = rightSpan == NONE ? 1 : chart.edgesOf(rightSpan);
            for (int i = 0; i < lefts; i++) {
                int left = leftSpan * SPAN_EDGES + i;
                if (chart.categoryOf(left) == grammar.leftOf(rule)) {
                    for (int j = 0; j < rights; j++) {
                        // An edge that is NONE has the category NONE, which is what the rule asks for then.
                        int right = rightSpan == NONE ? NONE : rightSpan * SPAN_EDGES + j;
                        if (chart.categoryOf(right) == grammar.rightOf(rule)
                                && grammar.unify(rule, chart.featuresOf(left), chart.featuresOf(right))) {
                            int price = chart.priceOf(left) + chart.priceOf(right) + grammar.paid;
                            int edge = chart.add(span, grammar.parentOf(rule), grammar.parentFeatures(), price);
                            chart.tellUse(edge, rule, left, right, grammar.relaxed);
                        }
                    }
                }
            }
        }
    }

    /** The edges of which the whole was made, each ahead of its parts, the left part ahead of the right one. */
    private static final class Tree {
        private int size = 0;
        private final int[] nodes = new int[NODES];
        private final int[] waiting = new int[NODES];
        private final int[] features = new int[NODES];
        private final int[] price = new int[NODES];

        void grow(Chart chart) {
            size = 0;
            int open = 0;
            int whole = chart.wholeEdge();
            if (whole != NONE) {
                waiting[0] = whole;
                open = 1;
            }
            while (open > 0 && open + 1 < NODES && size < NODES) {
                open--;
                int edge = waiting[open];
                nodes[size] = edge;
                size++;
                // The last one to wait is the first one to come: so the left part goes behind the right one.
                int right = chart.partOf(edge, RIGHT);
                if (right != NONE) {
                    waiting[open] = right;
                    open++;
                }
                int left = chart.partOf(edge, LEFT);
                if (left != NONE) {
                    waiting[open] = left;
                    open++;
                }
            }
        }

        int countRelaxed(Chart chart) {
            int count = 0;
            for (int k = 0; k < size; k++) {
                for (int equation = 0; equation < EQUATIONS; equation++) {
                    count += chart.isRelaxed(nodes[k], equation) ? 1 : 0;
                }
            }
            return count;
        }

        /** A relaxed equation, as its edge times EQUATIONS and its number. */
        int findRelaxed(Chart chart, int wanted) {
            int count = 0;
            for (int k = 0; k < size; k++) {
                for (int equation = 0; equation < EQUATIONS; equation++) {
                    if (chart.isRelaxed(nodes[k], equation)) {
                        if (count == wanted) {
                            return nodes[k] * EQUATIONS + equation;
                        }
                        count++;
                    }
                }
            }
            return NONE;
        }

        /** What the whole costs by its rules; backwards, so that an edge's parts are the last ones of the row. */
        int priceAnew(Chart chart, Grammar grammar) {
            int open = 0;
            for (int k = size - 1; k >= 0; k--) {
                int edge = nodes[k];
                int rule = chart.ruleOf(edge);
                if (rule == NONE) {
                    features[open] = chart.featuresOf(edge);
                    price[open] = 0;
                    open++;
                } else {
                    int parts = chart.partOf(edge, RIGHT) == NONE ? 1 : 2;
                    if (open < parts) {
                        return BROKEN;
                    }
                    open -= parts;
                    useAnew(grammar, rule, open, parts);
                    open++;
                }
            }
            return open == 1 ? price[0] : BROKEN;
        }

        private void useAnew(Grammar grammar, int rule, int lowest, int parts) {
            int left = lowest + parts - 1;
            if (!isBelow(lowest, NODES) || !isBelow(left, NODES)) {
                return;
            }
            grammar.unify(rule, features[left], parts == 2 ? features[lowest] : 0);
            price[lowest] = grammar.paid + price[left] + (parts == 2 ? price[lowest] : 0);
            features[lowest] = grammar.parentFeatures();
        }
    }

    /** The edges into which a sentence falls, from each place on. */
    private static final class Fragments {
        private int size = 0;
        private final int[] fewest = new int[PLACES + 1];
        private final int[] price = new int[PLACES + 1];
        private final int[] words = new int[PLACES + 1];

        void cut(Chart chart) {
            size = Math.max(0, Math.min(chart.size, PLACES));
            fewest[size] = 0;
            price[size] = 0;
            words[size] = 0;
            for (int from = size - 1; from >= 0; from--) {
                words[from] = 0;
                for (int many = 1; from + many <= size; many++) {
                    weigh(chart, from, many);
                }
            }
        }

        private void weigh(Chart chart, int from, int many) {
            int edge = chart.cheapest(spanOf(from, many), NONE);
            if (edge == NONE && many > 1) {
                return;
            }
            // A word without readings has no edge, and costs nothing.
            int pieces = fewest[from + many] + 1;
            int together = price[from + many] + chart.priceOf(edge);
            boolean better = pieces < fewest[from] || pieces == fewest[from] && together <= price[from];
            if (words[from] == 0 || better) {
                fewest[from] = pieces;
                price[from] = together;
                words[from] = many;
            }
        }

        int pieces() {
            return fewest[0];
        }

        int placeOf(int fragment) {
            int place = 0;
            for (int k = 0; k < fragment && place < size; k++) {
                place += wordsFrom(place);
            }
            return place;
        }

        int wordsFrom(int place) {
            return isBelow(place, size) ? words[place] : 0;
        }
    }

    /** The patterns of style, and where they are switched off. */
    private static final class Style {
        private int size = 0;
        private final int[] parts = new int[PATTERNS * PATTERN_PARTS];
        private final int[] exceptionOf = new int[PATTERNS];
        private final boolean[] offAltogether = new boolean[PATTERNS];
        private final boolean[] offForWord = new boolean[PATTERNS * WORDS];

        boolean isFull() {
            return size >= PATTERNS;
        }

        boolean hasPattern(int pattern) {
            return isBelow(pattern, size);
        }

        int addPattern(int first, int second, int third, int of) {
            if (!isBelow(size, PATTERNS)) {
                return NONE;
            }
            parts[size * PATTERN_PARTS] = first;
            parts[size * PATTERN_PARTS + 1] = second;
            parts[size * PATTERN_PARTS + 2] = third;
            exceptionOf[size] = of;
            size++;
            return size - 1;
        }

        boolean switchAltogether(int pattern) {
            if (!hasPattern(pattern)) {
                return false;
            }
            offAltogether[pattern] = !offAltogether[pattern];
            return offAltogether[pattern];
        }

        boolean switchFor(int pattern, int word) {
            if (!hasPattern(pattern) || !isBelow(word, WORDS)) {
                return false;
            }
            int slot = pattern * WORDS + word;
            offForWord[slot] = !offForWord[slot];
            return offForWord[slot];
        }

        private boolean isOff(int pattern, int word) {
            if (!hasPattern(pattern) || !isBelow(word, WORDS)) {
                return true;
            }
            return offAltogether[pattern] || offForWord[pattern * WORDS + word];
        }

        private boolean fits(Sentence own, int pattern, int place) {
            if (isOff(pattern, own.wordIn(place))) {
                return false;
            }
            for (int k = 0; k < PATTERN_PARTS; k++) {
                int category = parts[pattern * PATTERN_PARTS + k];
                if (category != NONE && own.leftOf(place + k, category) == 0) {
                    return false;
                }
            }
            return true;
        }

        /** The patterns that stand at a place and are no exceptions, as a set. */
        private int standing(Sentence own, int place) {
            int stopped = 0;
            int found = 0;
            // Exceptions have higher numbers than what they are exceptions of: backwards, they are settled first.
            for (int k = size - 1; k >= 0; k--) {
                if ((stopped >> k & 1) == 0 && fits(own, k, place)) {
                    if (exceptionOf[k] == NONE) {
                        found |= 1 << k;
                    } else {
                        stopped |= 1 << exceptionOf[k];
                    }
                }
            }
            return found;
        }

        int countFaults(Sentence own) {
            int count = 0;
            for (int place = 0; place < own.size; place++) {
                count += Integer.bitCount(standing(own, place));
            }
            return count;
        }

        /** A fault of style as it is answered: 10 times the pattern, and the place. */
        int faultNumber(Sentence own, int wanted) {
            int count = 0;
            for (int place = 0; place < own.size; place++) {
                int set = standing(own, place);
                for (int k = 0; k < size; k++) {
                    if ((set >> k & 1) != 0) {
                        if (count == wanted) {
                            return 10 * k + place;
                        }
                        count++;
                    }
                }
            }
            return NONE;
        }
    }
}
