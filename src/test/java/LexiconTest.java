/** Promises 1 to 5: a new object, words, readings, guesses. */
public final class LexiconTest {
    private static final Check check = new Check();

    private static void newObject() {
        ReadingChart x = new ReadingChart();
        check.that("NONE", ReadingChart.NONE == -1);
        check.that("BROKEN", ReadingChart.BROKEN == 1000);
        check.index("no words: readings(0)", () -> x.readings(0));
        check.index("no words: append(0, 0)", () -> x.append(0, 0));
        check.index("no rules: equate", () -> x.equate(0, 0, 0, 1, 0));
        check.index("no patterns: off(0, NONE)", () -> x.off(0, -1) ? 1 : 0);
        check.due("nothing was read", 0, () -> x.reads());
        for (int s = 0; s < 4; s++) {
            int sentence = s;
            check.due("length(" + s + ")", 0, () -> x.length(sentence));
            check.due("styleFaults(" + s + ")", 0, () -> x.styleFaults(sentence));
        }
        check.due("of a new object the cost", 1000, () -> x.cost(3));
        check.due("an empty sentence is read too, but once", 1, () -> x.reads());
        check.due("of a new object the cost anew", 1000, () -> x.costAnew(3));
        check.due("once", 1, () -> x.reads());
        check.due("an object of its own: word(0)", 0, () -> new ReadingChart().word(0));
    }

    private static void words() {
        ReadingChart x = new ReadingChart();
        check.argument("word(-1)", () -> x.word(-1));
        check.argument("word(10)", () -> x.word(10));
        check.argument("word(least)", () -> x.word(Integer.MIN_VALUE));
        for (int k = 0; k < 40; k++) {
            int due = k;
            check.due("word " + k, due, () -> x.word(due % 10));
        }
        check.state("word 40", () -> x.word(9));
        check.argument("word(10) ahead of the state", () -> x.word(10));
        check.due("the last word stands", 0, () -> x.readings(39));
        check.index("no word 40", () -> x.readings(40));
        check.index("no word -1", () -> x.readings(-1));
        check.due("guess(9)", 1, () -> x.guess(9, 0, 0, 0, 0));
        check.due("word 39 has the ending 9", 1, () -> x.readings(39));
        check.due("word 38 has the ending 8", 0, () -> x.readings(38));
        check.due("append the last word", 1, () -> x.append(0, 39));
    }

    private static void readings() {
        ReadingChart x = new ReadingChart();
        check.index("no such word, though all else is wrong too", () -> x.reading(0, 31, 10, 4, 4, 4));
        x.word(0);
        x.word(0);
        check.index("reading(2)", () -> x.reading(2, 0, 0, 0, 0, 0));
        check.index("reading(-1)", () -> x.reading(-1, 0, 0, 0, 0, 0));
        check.argument("lemma -1", () -> x.reading(0, -1, 0, 0, 0, 0));
        check.argument("lemma 31", () -> x.reading(0, 31, 0, 0, 0, 0));
        check.argument("category -1", () -> x.reading(0, 0, -1, 0, 0, 0));
        check.argument("category 10", () -> x.reading(0, 0, 10, 0, 0, 0));
        check.argument("feature 0 below", () -> x.reading(0, 0, 0, -1, 0, 0));
        check.argument("feature 0 above", () -> x.reading(0, 0, 0, 4, 0, 0));
        check.argument("feature 1 below", () -> x.reading(0, 0, 0, 0, -1, 0));
        check.argument("feature 1 above", () -> x.reading(0, 0, 0, 0, 4, 0));
        check.argument("feature 2 below", () -> x.reading(0, 0, 0, 0, 0, -1));
        check.argument("feature 2 above", () -> x.reading(0, 0, 0, 0, 0, 4));
        check.due("nothing was told by what threw", 0, () -> x.readings(0));
        check.due("the first reading", 1, () -> x.reading(0, 30, 9, 3, 3, 3));
        check.due("the second one", 2, () -> x.reading(0, 0, 0, 0, 0, 0));
        check.due("of another word", 1, () -> x.reading(1, 0, 0, 0, 0, 0));
        check.due("the third one", 3, () -> x.reading(0, 0, 0, 0, 0, 0));
        check.due("the fourth one", 4, () -> x.reading(0, 1, 1, 1, 2, 3));
        check.state("a fifth one", () -> x.reading(0, 1, 1, 1, 1, 1));
        check.argument("arguments ahead of the state", () -> x.reading(0, 1, 1, 1, 1, 4));
        check.due("four stay", 4, () -> x.readings(0));
        check.due("and one", 1, () -> x.readings(1));
        x.append(0, 0);
        check.due("numbered as told", 9333, () -> x.edge(0, 0, 1, 0));
        check.due("numbered as told, behind the alike ones", 1123, () -> x.edge(0, 0, 1, 2));
    }

    private static void guesses() {
        ReadingChart x = new ReadingChart();
        check.argument("ending -1", () -> x.guess(-1, 0, 0, 0, 0));
        check.argument("ending 10", () -> x.guess(10, 0, 0, 0, 0));
        check.argument("category -1", () -> x.guess(0, -1, 0, 0, 0));
        check.argument("category 10", () -> x.guess(0, 10, 0, 0, 0));
        check.argument("feature 0 above", () -> x.guess(0, 0, 4, 0, 0));
        check.argument("feature 1 above", () -> x.guess(0, 0, 0, 4, 0));
        check.argument("feature 2 above", () -> x.guess(0, 0, 0, 0, 4));
        check.argument("feature 2 below", () -> x.guess(0, 0, 0, 0, -1));
        check.due("a guess ahead of the words", 1, () -> x.guess(3, 2, 1, 2, 3));
        x.word(3);
        x.word(4);
        check.due("guessed", 1, () -> x.readings(0));
        check.due("another ending", 0, () -> x.readings(1));
        check.due("second guess", 2, () -> x.guess(3, 3, 0, 0, 0));
        check.due("of another ending", 1, () -> x.guess(9, 3, 0, 0, 0));
        check.due("third guess", 3, () -> x.guess(3, 4, 0, 0, 0));
        check.due("fourth guess", 4, () -> x.guess(3, 5, 0, 0, 0));
        check.state("fifth guess", () -> x.guess(3, 5, 0, 0, 0));
        check.argument("arguments ahead of the state", () -> x.guess(3, 5, 0, 0, 4));
        check.due("all guessed", 4, () -> x.readings(0));
        x.append(0, 0);
        check.due("the guess as it was told", 2123, () -> x.edge(0, 0, 1, 0));
        check.due("a told one", 1, () -> x.reading(0, 0, 7, 0, 0, 0));
        check.due("takes the place of all guesses", 1, () -> x.readings(0));
        check.due("in the chart too", 7000, () -> x.edge(0, 0, 1, 0));
        check.due("and only that", 1, () -> x.edges(0, 0, 1));
    }

    public static void main(String[] args) {
        newObject();
        words();
        readings();
        guesses();
        check.end();
    }
}
