/** Promises 10 to 14 and 16: the words of the sentences, and to which of them pronouns refer. */
public final class TextTest {
    private static final Check check = new Check();

    private static void words() {
        ReadingChart x = new ReadingChart();
        check.index("no such sentence, and no such word", () -> x.append(-1, 0));
        check.index("no such word", () -> x.append(0, 0));
        for (int k = 0; k < 7; k++) {
            x.word(0);
        }
        check.index("sentence 4", () -> x.append(4, 0));
        check.index("word -1", () -> x.append(0, -1));
        check.index("word 7", () -> x.append(0, 7));
        for (int k = 0; k < 6; k++) {
            int due = k;
            check.due("append " + k, due + 1, () -> x.append(3, due));
        }
        check.state("a seventh word", () -> x.append(3, 6));
        check.index("no such word ahead of the state", () -> x.append(3, 7));
        check.due("length", 6, () -> x.length(3));
        check.due("length of another one", 0, () -> x.length(2));
        check.due("wordAt(3, 0)", 0, () -> x.wordAt(3, 0));
        check.due("wordAt(3, 5)", 5, () -> x.wordAt(3, 5));
        check.index("wordAt(3, 6)", () -> x.wordAt(3, 6));
        check.index("wordAt(3, -1)", () -> x.wordAt(3, -1));
        check.index("wordAt(4, 0)", () -> x.wordAt(4, 0));
        check.index("wordAt(-1, 0)", () -> x.wordAt(-1, 0));
        check.index("length(4)", () -> x.length(4));
        check.index("length(-1)", () -> x.length(-1));
        check.index("length(least)", () -> x.length(Integer.MIN_VALUE));
        changes(x);
    }

    private static void changes(ReadingChart x) {
        check.due("change answers what was there", 2, () -> x.change(3, 2, 6));
        check.due("the new one", 6, () -> x.wordAt(3, 2));
        check.due("to the same", 6, () -> x.change(3, 2, 6));
        check.index("change(4, 0, 0)", () -> x.change(4, 0, 0));
        check.index("change(3, 6, 0)", () -> x.change(3, 6, 0));
        check.index("change(3, -1, 0)", () -> x.change(3, -1, 0));
        check.index("change(3, 0, 7)", () -> x.change(3, 0, 7));
        check.index("change(3, 0, -1)", () -> x.change(3, 0, -1));
        check.due("nothing changed by what threw", 0, () -> x.wordAt(3, 0));
        check.due("remove answers the word", 1, () -> x.remove(3, 1));
        check.due("five stay", 5, () -> x.length(3));
        check.due("ahead of it", 0, () -> x.wordAt(3, 0));
        check.due("what was behind it", 6, () -> x.wordAt(3, 1));
        check.due("the last one", 5, () -> x.wordAt(3, 4));
        check.index("no longer there", () -> x.wordAt(3, 5));
        check.due("remove the last one", 5, () -> x.remove(3, 4));
        check.index("remove(3, 4)", () -> x.remove(3, 4));
        check.index("remove(3, -1)", () -> x.remove(3, -1));
        check.index("remove(0, 0)", () -> x.remove(0, 0));
        check.index("remove(4, 0)", () -> x.remove(4, 0));
        check.due("there is room again", 5, () -> x.append(3, 0));
        check.due("nothing was read for all that", 0, () -> x.reads());
    }

    // The words of the texts below.
    private static final int NOUN_11 = 0;
    private static final int NOUN_12 = 1;
    private static final int NOUN_20 = 2;
    private static final int PRONOUN = 3;
    private static final int PRONOUN_1 = 4;
    private static final int PRONOUN_02 = 5;
    private static final int VERB = 6;
    private static final int NOUN_OR_VERB = 7;
    private static final int TWO_PRONOUNS = 8;
    private static final int TWO_NOUNS = 9;
    private static final int BARE = 10;

    private static ReadingChart text() {
        ReadingChart x = new ReadingChart();
        for (int k = 0; k < 11; k++) {
            x.word(0);
        }
        x.reading(NOUN_11, 0, 0, 1, 1, 3);
        x.reading(NOUN_12, 0, 0, 1, 2, 0);
        x.reading(NOUN_20, 0, 0, 2, 0, 0);
        x.reading(PRONOUN, 1, 1, 0, 0, 0);
        x.reading(PRONOUN_1, 1, 1, 1, 0, 0);
        x.reading(PRONOUN_02, 1, 1, 0, 2, 0);
        x.reading(VERB, 2, 2, 0, 0, 0);
        x.reading(NOUN_OR_VERB, 3, 2, 0, 0, 0);
        x.reading(NOUN_OR_VERB, 3, 0, 3, 3, 0);
        x.reading(TWO_PRONOUNS, 1, 2, 0, 0, 0);
        x.reading(TWO_PRONOUNS, 1, 1, 1, 0, 0);
        x.reading(TWO_PRONOUNS, 1, 1, 0, 0, 0);
        x.reading(TWO_PRONOUNS, 2, 1, 0, 2, 1);
        x.reading(TWO_NOUNS, 1, 0, 2, 2, 0);
        x.reading(TWO_NOUNS, 1, 0, 1, 3, 0);
        return x;
    }

    private static void put(ReadingChart x, int sentence, int... words) {
        for (int word : words) {
            x.append(sentence, word);
        }
    }

    private static void referents() {
        ReadingChart x = text();
        put(x, 0, NOUN_11, VERB, NOUN_12, NOUN_20);
        put(x, 1, PRONOUN, PRONOUN_1, PRONOUN_02, NOUN_11, PRONOUN_02);
        check.due("from the end of the sentence ahead", 3, () -> x.referent(1, 0));
        check.due("the nearest one that agrees", 2, () -> x.referent(1, 1));
        check.due("an open feature agrees with any", 3, () -> x.referent(1, 2));
        check.due("in its sentence the noun has another gender", 3, () -> x.referent(1, 4));
        check.due("no pronoun", -1, () -> x.referent(1, 3));
        check.due("a verb", -1, () -> x.referent(0, 1));
        put(x, 1, PRONOUN);
        check.due("first in its own sentence", 13, () -> x.referent(1, 5));
        put(x, 2, VERB);
        put(x, 3, PRONOUN_02, PRONOUN_1);
        check.due("not three sentences ahead", -1, () -> x.referent(3, 0));
        check.due("two sentences ahead", 13, () -> x.referent(3, 1));
        check.index("sentence 4", () -> x.referent(4, 0));
        check.index("sentence -1", () -> x.referent(-1, 0));
        check.index("place 2", () -> x.referent(3, 2));
        check.index("place -1", () -> x.referent(3, -1));
        check.due("nothing was read for it", 0, () -> x.reads());
    }

    private static void nothingBehind() {
        ReadingChart x = text();
        put(x, 0, PRONOUN, NOUN_11);
        put(x, 1, NOUN_12);
        check.due("nouns behind it don't count", -1, () -> x.referent(0, 0));
        put(x, 1, BARE, PRONOUN_02);
        check.due("past a word without readings", 10, () -> x.referent(1, 2));
    }

    private static void strikingCounts() {
        ReadingChart x = text();
        put(x, 0, NOUN_11, NOUN_OR_VERB);
        put(x, 1, PRONOUN);
        check.due("the noun of two readings", 1, () -> x.referent(1, 0));
        x.sure(0, -1, 0);
        check.due("its noun is struck", 0, () -> x.referent(1, 0));
        x.append(1, TWO_PRONOUNS);
        check.due("a pronoun among others", 0, () -> x.referent(1, 1));
        x.sure(1, -1, 1);
        check.due("no pronoun left", -1, () -> x.referent(1, 1));
        check.due("but its other reading", 1, () -> x.left(1, 1));
    }

    private static void giving() {
        ReadingChart x = text();
        put(x, 0, NOUN_12);
        put(x, 1, TWO_PRONOUNS, PRONOUN_02);
        check.due("the verb is given nothing", 2000, () -> x.edge(1, 0, 1, 0));
        check.due("the first pronoun has one feature open", 1120, () -> x.edge(1, 0, 1, 1));
        check.due("the second one became alike, the third one has another third feature", 3, () -> x.edges(1, 0, 1));
        check.due("it has the first one open", 1121, () -> x.edge(1, 0, 1, 2));
        check.due("a third feature is never given", 1120, () -> x.edge(1, 1, 1, 0));
        x.change(0, 0, NOUN_20);
        check.due("the first pronoun does not agree: none is given anything", 4, () -> x.edges(1, 0, 1));
        check.due("the second one stays open", 1000, () -> x.edge(1, 0, 1, 2));
        check.due("an open one of the noun leaves it open", 1220, () -> x.edge(1, 1, 1, 0));
        x.change(0, 0, TWO_NOUNS);
        check.due("the first noun that agrees is the second one of the word", 0, () -> x.referent(1, 0));
        check.due("which gives both", 1130, () -> x.edge(1, 0, 1, 1));
        check.due("the second pronoun", 3, () -> x.edges(1, 0, 1));
        check.due("the third pronoun is given one that it lacks", 1121, () -> x.edge(1, 0, 1, 2));
        check.due("the other word refers to the first noun of it", 1220, () -> x.edge(1, 1, 1, 0));
    }

    public static void main(String[] args) {
        words();
        referents();
        nothingBehind();
        strikingCounts();
        giving();
        check.end();
    }
}
