/** Promises 26 to 28: mends, alone and together. */
public final class MendTest {
    private static final Check check = new Check();

    private static int word(ReadingChart x, int lemma, int category, int first, int second, int third) {
        int word = x.word(0);
        x.reading(word, lemma, category, first, second, third);
        return word;
    }

    private static void put(ReadingChart x, int sentence, int... words) {
        for (int word : words) {
            x.append(sentence, word);
        }
    }

    /** A subject (5) and a verb (2), their numbers to agree; the subject is told first. */
    private static ReadingChart pair(int cost) {
        ReadingChart x = new ReadingChart();
        x.rule(9, 5, 2, 2);
        x.equate(0, 0, 1, 2, cost);
        return x;
    }

    private static void arguments() {
        ReadingChart x = pair(7);
        put(x, 0, word(x, 0, 5, 1, 0, 0), word(x, 1, 2, 2, 0, 0));
        int[] none = {-1, 4, Integer.MIN_VALUE};
        for (int s : none) {
            check.index("mend(" + s + ", 0)", () -> x.mend(s, 0));
            check.index("best(" + s + ")", () -> x.best(s));
            check.index("mendAll(" + s + ")", () -> x.mendAll(s));
        }
        check.due("nothing was read", 0, () -> x.reads());
        check.index("mend(0, 1)", () -> x.mend(0, 1));
        check.index("mend(0, -1)", () -> x.mend(0, -1));
        check.due("read once", 1, () -> x.reads());
        check.due("no word to mend it", -1, () -> x.mend(0, 0));
        check.due("no mends together", 0, () -> x.best(0));
        check.due("the cost stays", 7, () -> x.mendAll(0));
        check.due("nothing was changed: read once still", 1, () -> x.reads());
        check.index("an empty sentence has no fault", () -> x.mend(1, 0));
        check.due("nor mends", 0, () -> x.best(1));
        check.due("and is broken", 1000, () -> x.mendAll(1));
        check.due("it was read once", 2, () -> x.reads());
    }

    private static void rightPartFirst() {
        ReadingChart x = pair(7);
        int boy = word(x, 0, 5, 1, 0, 0);
        int sing = word(x, 1, 2, 2, 0, 0);
        put(x, 0, boy, sing);
        int boys = word(x, 0, 5, 2, 0, 0);
        check.due("the left part, as there is none for the right one", boys, () -> x.mend(0, 0));
        word(x, 1, 2, 1, 1, 0);
        word(x, 3, 2, 1, 0, 0);
        word(x, 1, 5, 1, 0, 0);
        word(x, 1, 2, 1, 0, 2);
        check.due("another feature, lemma or category does not do", boys, () -> x.mend(0, 0));
        int sings = word(x, 1, 2, 1, 0, 0);
        word(x, 1, 2, 1, 0, 0);
        check.due("the right part first, the lowest word", 100 + sings, () -> x.mend(0, 0));
        check.due("best", 1, () -> x.best(0));
        check.due("mendAll", 0, () -> x.mendAll(0));
        check.due("the word is there", sings, () -> x.wordAt(0, 1));
        check.due("the other one stays", boy, () -> x.wordAt(0, 0));
        check.due("no fault is left", 0, () -> x.faults(0));
        check.due("nothing is left to mend", 0, () -> x.best(0));
        check.due("mendAll once more", 0, () -> x.mendAll(0));
    }

    private static void lowestOfAll() {
        ReadingChart x = pair(7);
        int sings = word(x, 0, 2, 1, 0, 0);
        x.reading(sings, 0, 3, 3, 3, 3);
        int boy = word(x, 0, 5, 1, 0, 0);
        int sing = x.word(0);
        x.reading(sing, 9, 3, 0, 0, 0);
        x.reading(sing, 0, 2, 2, 0, 0);
        put(x, 0, boy, sing);
        word(x, 0, 2, 1, 0, 0);
        check.due("the head's second reading, and the word 0", 100, () -> x.mend(0, 0));
    }

    private static void openThird() {
        ReadingChart x = pair(7);
        int boy = word(x, 0, 5, 1, 0, 0);
        int sing = word(x, 1, 2, 2, 0, 3);
        put(x, 0, boy, sing);
        word(x, 1, 2, 1, 0, 0);
        check.due("open is not the same as 3", -1, () -> x.mend(0, 0));
        int sings = word(x, 1, 2, 1, 0, 3);
        check.due("the other two as in the lexicon", 100 + sings, () -> x.mend(0, 0));
    }

    private static void lowestOnly() {
        ReadingChart x = pair(7);
        int boy = word(x, 0, 5, 1, 0, 0);
        int trap = word(x, 1, 2, 1, 0, 0);
        int sing = word(x, 1, 2, 2, 0, 0);
        int sings = word(x, 1, 2, 1, 0, 0);
        x.reading(trap, 9, 7, 0, 0, 0);
        // Of the trap the verb is struck: it would leave the sentence broken.
        x.seen(2, -1, 5, -1);
        put(x, 0, boy, sing);
        check.due("only the lowest word is tried", -1, () -> x.mend(0, 0));
        check.due("and none is best", 0, () -> x.best(0));
        int boys = word(x, 0, 5, 2, 0, 0);
        check.due("then the left part", boys, () -> x.mend(0, 0));
        check.that("words differ", sings != trap);
    }

    private static void toldOnly() {
        ReadingChart x = pair(7);
        int boy = word(x, 0, 5, 1, 0, 0);
        put(x, 0, boy);
        int guessed = x.word(1);
        x.guess(1, 2, 2, 0, 0);
        put(x, 0, guessed);
        word(x, 0, 2, 1, 0, 0);
        check.due("a guess has a lemma of its own", -1, () -> x.mend(0, 0));
        int boys = word(x, 0, 5, 2, 0, 0);
        check.due("the told one can be mended", boys, () -> x.mend(0, 0));
    }

    private static void wantedOfParent() {
        ReadingChart x = new ReadingChart();
        int left = word(x, 0, 5, 1, 0, 0);
        int right = word(x, 1, 2, 2, 0, 0);
        put(x, 0, left, right);
        x.rule(9, 5, 2, 1);
        x.equate(0, 0, 0, 1, 0);
        x.equate(0, 0, 2, 0, 4);
        check.due("the parent against the right part", 4, () -> x.cost(0));
        word(x, 0, 5, 2, 0, 0);
        check.due("the equation was not about the left part", -1, () -> x.mend(0, 0));
        int better = word(x, 1, 2, 1, 0, 0);
        check.due("the parent's feature is wanted", 100 + better, () -> x.mend(0, 0));
    }

    private static void wantedAsItWasThen() {
        ReadingChart x = new ReadingChart();
        int left = word(x, 0, 5, 0, 0, 0);
        int right = word(x, 1, 2, 2, 0, 0);
        int middle = word(x, 2, 3, 1, 0, 0);
        // The left part of the whole is open by itself; within the use it becomes what the parent has.
        x.rule(6, 5, 3, 1);
        x.rule(9, 6, 2, 2);
        x.equate(0, 0, 0, 2, 0);
        x.equate(1, 0, 1, 0, 0);
        x.equate(1, 0, 0, 2, 3);
        put(x, 0, left, middle, right);
        check.due("the cost", 3, () -> x.cost(0));
        int better = word(x, 1, 2, 1, 0, 0);
        check.due("mended", 200 + better, () -> x.mend(0, 0));
    }

    private static void headsBelow() {
        ReadingChart x = new ReadingChart();
        int red = word(x, 0, 3, 0, 0, 0);
        int boy = word(x, 1, 5, 1, 0, 0);
        int sing = word(x, 2, 2, 2, 0, 0);
        int boys = word(x, 1, 5, 2, 0, 0);
        x.rule(6, 3, 5, 2);
        x.equate(0, 0, 0, 2, 0);
        x.rule(7, 6, -1, 1);
        x.equate(1, 0, 0, 1, 0);
        x.rule(9, 7, 2, 1);
        x.equate(2, 0, 1, 2, 5);
        put(x, 0, red, boy, sing);
        check.due("the head down to the word", 100 + boys, () -> x.mend(0, 0));
        ReadingChart y = new ReadingChart();
        int big = word(y, 0, 3, 1, 0, 0);
        int one = word(y, 1, 5, 1, 0, 0);
        int two = word(y, 2, 2, 2, 0, 0);
        int bigger = word(y, 0, 3, 2, 0, 0);
        y.rule(6, 3, 5, 1);
        y.equate(0, 0, 0, 2, 0);
        y.rule(9, 6, 2, 1);
        y.equate(1, 0, 1, 2, 5);
        put(y, 0, big, one, two);
        check.due("the head is the left one, of which the cost is no lower", -1, () -> y.mend(0, 0));
        check.that("a word that would be it", bigger == 3);
    }

    private static void pronouns() {
        ReadingChart x = pair(7);
        int noun = word(x, 0, 0, 1, 2, 0);
        int it = word(x, 1, 1, 0, 2, 0);
        int sing = word(x, 2, 2, 2, 0, 0);
        x.rule(5, 1, -1, 1);
        x.equate(1, 0, 0, 1, 0);
        put(x, 0, noun);
        put(x, 1, it, sing);
        check.due("the pronoun has the noun's number", 7, () -> x.cost(1));
        check.due("the noun's ahead", 0, () -> x.referent(1, 0));
        word(x, 1, 1, 2, 0, 0);
        check.due("the other feature as in the lexicon", -1, () -> x.mend(1, 0));
        int they = word(x, 1, 1, 2, 2, 0);
        check.due("a pronoun of its own number", they, () -> x.mend(1, 0));
        check.due("mended", 0, () -> x.mendAll(1));
        check.due("it refers to nothing then", -1, () -> x.referent(1, 0));
    }

    /** Two sentences in one, each with a fault. */
    private static ReadingChart twoFaults() {
        ReadingChart x = pair(7);
        x.rule(9, 9, 9, 1);
        int boy = word(x, 0, 5, 1, 0, 0);
        int sing = word(x, 1, 2, 2, 0, 0);
        put(x, 0, boy, sing, boy, sing);
        return x;
    }

    private static void together() {
        ReadingChart x = twoFaults();
        int sings = word(x, 1, 2, 1, 0, 0);
        check.due("the first one", 100 + sings, () -> x.mend(0, 0));
        check.due("the second one", 300 + sings, () -> x.mend(0, 1));
        check.due("both together", 3, () -> x.best(0));
        check.due("nothing is changed by asking", 14, () -> x.cost(0));
        int before = x.reads();
        check.due("made", 0, () -> x.mendAll(0));
        check.due("read once more", before + 1, () -> x.reads());
        check.due("both are there", sings, () -> x.wordAt(0, 1));
        check.due("both are there", sings, () -> x.wordAt(0, 3));

        ReadingChart three = twoFaults();
        int verb = word(three, 1, 2, 1, 0, 0);
        three.append(0, 0);
        three.append(0, 1);
        check.due("three faults", 3, () -> three.faults(0));
        check.due("the third one has a mend", 500 + verb, () -> three.mend(0, 2));
        check.due("but only the first two are put together", 3, () -> three.best(0));
        check.due("so that one stays", 7, () -> three.mendAll(0));
        check.due("and comes with the next call", 0, () -> three.mendAll(0));
    }

    private static void onlySecond() {
        ReadingChart x = pair(7);
        x.rule(9, 9, 9, 1);
        int boy = word(x, 0, 5, 1, 0, 0);
        int sing = word(x, 1, 2, 2, 0, 0);
        int shout = word(x, 2, 2, 2, 0, 0);
        put(x, 0, boy, shout, boy, sing);
        int sings = word(x, 1, 2, 1, 0, 0);
        check.due("none for the first one", -1, () -> x.mend(0, 0));
        check.due("one for the second one", 300 + sings, () -> x.mend(0, 1));
        check.due("bit 1", 2, () -> x.best(0));
        check.due("mendAll", 7, () -> x.mendAll(0));
        check.due("the first fault stays", 1, () -> x.faults(0));
    }

    /** Two equations of one use, both mended by the same word's place. */
    private static void onePlace() {
        ReadingChart x = new ReadingChart();
        x.rule(9, 5, 2, 2);
        x.equate(0, 0, 1, 2, 2);
        x.equate(0, 1, 1, 2, 3);
        int boy = word(x, 0, 5, 1, 1, 0);
        int wrong = word(x, 1, 2, 2, 2, 0);
        put(x, 0, boy, wrong);
        int first = word(x, 1, 2, 1, 2, 0);
        int second = word(x, 1, 2, 2, 1, 0);
        check.due("a mend of the first one", 100 + first, () -> x.mend(0, 0));
        check.due("a mend of the second one", 100 + second, () -> x.mend(0, 1));
        check.due("not both for one place: the cheaper one", 2, () -> x.best(0));
        check.due("the cost then", 2, () -> x.mendAll(0));
        check.due("then the other one", 0, () -> x.best(0));
        word(x, 1, 2, 1, 1, 0);
        check.due("now there is a word for it", 0, () -> x.mendAll(0));
    }

    /** Of several sets with one cost the fewer mends, then the lower number. */
    private static void ties() {
        ReadingChart x = new ReadingChart();
        x.rule(9, 5, 2, 2);
        x.equate(0, 0, 1, 2, 4);
        x.equate(0, 1, 1, 2, 4);
        int boy = word(x, 0, 5, 1, 1, 0);
        int wrong = word(x, 1, 2, 2, 2, 0);
        put(x, 0, boy, wrong);
        word(x, 1, 2, 1, 2, 0);
        word(x, 1, 2, 2, 1, 0);
        check.due("as dear: the lower number", 1, () -> x.best(0));

        ReadingChart y = new ReadingChart();
        y.rule(9, 5, 2, 2);
        y.equate(0, 0, 1, 2, 4);
        y.equate(0, 1, 1, 2, 4);
        int left = word(y, 0, 5, 1, 1, 0);
        int right = word(y, 1, 2, 2, 2, 0);
        put(y, 0, left, right);
        int goodRight = word(y, 1, 2, 1, 2, 0);
        y.reading(goodRight, 5, 2, 0, 0, 0);
        int goodLeft = word(y, 0, 5, 1, 2, 0);
        check.due("the right one", 100 + goodRight, () -> y.mend(0, 0));
        check.due("the left one", goodLeft, () -> y.mend(0, 1));
        check.due("both cost as little as the first one alone: fewer", 1, () -> y.best(0));
        check.due("so the left one stays", 0, () -> y.mendAll(0));
        check.due("as it was", left, () -> y.wordAt(0, 0));
    }

    public static void main(String[] args) {
        arguments();
        rightPartFirst();
        lowestOfAll();
        openThird();
        lowestOnly();
        toldOnly();
        wantedOfParent();
        wantedAsItWasThen();
        headsBelow();
        pronouns();
        together();
        onlySecond();
        onePlace();
        ties();
        check.end();
    }
}
