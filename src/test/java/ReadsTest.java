/** Promise 29, and the section "Reading anew": how often a sentence is read. */
public final class ReadsTest {
    private static final Check check = new Check();

    private static ReadingChart text() {
        ReadingChart x = new ReadingChart();
        for (int k = 0; k < 8; k++) {
            x.word(k);
        }
        x.reading(0, 0, 0, 1, 1, 0);
        x.reading(1, 0, 0, 2, 1, 0);
        x.reading(2, 0, 0, 1, 1, 3);
        x.reading(3, 1, 1, 0, 0, 0);
        x.reading(4, 1, 1, 1, 0, 0);
        x.reading(5, 2, 2, 0, 0, 0);
        x.reading(6, 0, 0, 0, 0, 0);
        x.append(0, 0);
        x.append(1, 3);
        x.append(2, 5);
        return x;
    }

    private static void due(String what, ReadingChart x, int reads) {
        check.due(what, reads, () -> x.reads());
    }

    private static void whatReads() {
        for (int ask = 0; ask < 12; ask++) {
            ReadingChart x = text();
            int op = ask;
            int calls = 0;
            try {
                calls = ask(x, op);
            } catch (IndexOutOfBoundsException e) {
                calls = -1;
            }
            due("call " + op + " answered " + calls + " and read once", x, 1);
            x.cost(2);
            due("call " + op + ": it is kept", x, 1);
            x.cost(1);
            due("call " + op + ": another sentence", x, 2);
        }
    }

    /** All of these read the sentence 2; some find nothing and throw. */
    private static int ask(ReadingChart x, int op) {
        switch (op) {
            case 0: return x.edges(2, 0, 1);
            case 1: return x.edge(2, 0, 1, 7);
            case 2: return x.edgeCost(2, 0, 1, -1);
            case 3: return x.cost(2);
            case 4: return x.costAnew(2);
            case 5: return x.faults(2);
            case 6: return x.fault(2, 0);
            case 7: return x.fragments(2);
            case 8: return x.fragment(2, 1);
            case 9: return x.mend(2, 0);
            case 10: return x.best(2);
            default: return x.mendAll(2);
        }
    }

    private static void whatDoesNotRead() {
        ReadingChart x = text();
        x.length(0);
        x.wordAt(0, 0);
        x.left(0, 0);
        x.referent(1, 0);
        x.readings(0);
        x.pattern(0, -1, -1, -1);
        x.styleFaults(0);
        x.styleFault(0, 0);
        check.index("no such span", () -> x.edges(0, 0, 2));
        check.index("no such span", () -> x.edge(0, 1, 1, 0));
        check.index("no such span", () -> x.edgeCost(0, 0, 0, 0));
        check.index("no such sentence", () -> x.cost(4));
        due("none of these reads", x, 0);
    }

    /** Each of these makes a sentence be read anew, or does not. */
    private static void whatMakesItOld() {
        ReadingChart x = text();
        x.cost(2);
        due("first", x, 1);
        x.change(2, 0, 5);
        x.cost(2);
        due("changed to the same word", x, 1);
        x.change(2, 0, 7);
        x.change(2, 0, 5);
        x.cost(2);
        due("changed and changed back", x, 2);
        x.append(2, 7);
        x.cost(2);
        due("append", x, 3);
        x.remove(2, 1);
        x.cost(2);
        due("remove", x, 4);
        x.append(2, 5);
        x.remove(2, 0);
        x.cost(2);
        due("the same words stand there again", x, 5);
        x.cost(2);
        x.word(0);
        x.pattern(2, -1, -1, -1);
        x.off(0, -1);
        x.append(3, 5);
        x.change(0, 0, 1);
        x.cost(2);
        due("a word, a pattern, other sentences", x, 5);
        x.reading(7, 0, 2, 0, 0, 0);
        x.cost(2);
        due("a reading of a word that is not there", x, 6);
        x.guess(9, 0, 0, 0, 0);
        x.cost(2);
        due("a guess", x, 7);
        x.sure(9, 1, 9);
        x.cost(2);
        due("SURE", x, 8);
        x.seen(9, 1, 9, -1);
        x.cost(2);
        due("SEEN", x, 9);
        x.rule(9, 8, -1, 1);
        x.cost(2);
        due("a rule", x, 10);
        x.equate(0, 0, 0, 1, 0);
        x.cost(2);
        due("an equation", x, 11);
        whatThrowsChangesNothing(x);
    }

    private static void whatThrowsChangesNothing(ReadingChart x) {
        check.argument("reading", () -> x.reading(0, 31, 0, 0, 0, 0));
        check.argument("guess", () -> x.guess(0, 10, 0, 0, 0));
        check.argument("sure", () -> x.sure(0, 0, 0));
        check.argument("seen", () -> x.seen(0, 0, 0, 0));
        check.argument("rule", () -> x.rule(0, 0, 0, 0));
        check.argument("equate", () -> x.equate(0, 0, 0, 2, 0));
        check.index("append", () -> x.append(2, 40));
        check.index("change", () -> x.change(2, 1, 0));
        check.index("remove", () -> x.remove(2, 1));
        x.cost(2);
        due("what throws changes nothing", x, 11);
    }

    private static void nouns() {
        ReadingChart x = text();
        x.cost(1);
        due("first", x, 1);
        x.change(0, 0, 2);
        x.cost(1);
        due("another noun with the same features 0 and 1", x, 1);
        x.change(0, 0, 1);
        x.cost(1);
        due("a noun of another number", x, 2);
        check.due("which the pronoun got", 1210, () -> x.edge(1, 0, 1, 0));
        x.append(0, 5);
        x.cost(1);
        due("a word behind the noun", x, 2);
        x.append(0, 1);
        x.cost(1);
        due("another word with the same features", x, 2);
        x.change(0, 2, 6);
        x.cost(1);
        due("an open noun", x, 3);
        x.change(0, 2, 5);
        x.change(0, 0, 5);
        check.due("no noun", -1, () -> x.referent(1, 0));
        x.cost(1);
        due("no noun is as an open one", x, 3);
        x.remove(0, 0);
        x.remove(0, 0);
        x.remove(0, 0);
        x.cost(1);
        due("nor a sentence without words", x, 3);
    }

    private static void nounsThatGiveNothing() {
        ReadingChart x = text();
        x.change(1, 0, 4);
        x.append(1, 5);
        x.cost(1);
        due("first", x, 1);
        x.change(0, 0, 6);
        x.cost(1);
        due("the number of the noun is told, though the word has its own", x, 2);
        check.due("so that its edge is other only by the gender", 1100, () -> x.edge(1, 0, 1, 0));
    }

    private static void nounsFromFarAhead() {
        ReadingChart x = text();
        x.append(2, 3);
        x.append(3, 3);
        x.cost(2);
        x.cost(3);
        due("both", x, 2);
        x.change(0, 0, 1);
        x.cost(3);
        due("three sentences ahead does not count", x, 2);
        x.cost(2);
        due("two sentences ahead does", x, 3);
        x.cost(2);
        x.cost(3);
        due("and is kept", x, 3);
    }

    private static void within() {
        ReadingChart x = new ReadingChart();
        x.word(0);
        x.word(1);
        x.word(2);
        x.reading(0, 0, 0, 1, 1, 0);
        x.reading(0, 1, 2, 0, 0, 0);
        x.reading(1, 0, 1, 0, 0, 0);
        x.reading(2, 0, 2, 0, 0, 0);
        x.append(0, 2);
        x.append(0, 0);
        x.append(1, 1);
        x.cost(1);
        due("first", x, 1);
        check.due("given", 1110, () -> x.edge(1, 0, 1, 0));
        x.sure(0, -1, 2);
        check.due("the noun is struck", -1, () -> x.referent(1, 0));
        check.due("not given", 1000, () -> x.edge(1, 0, 1, 0));
        due("read again", x, 2);
        x.remove(0, 0);
        check.due("striking in the sentence ahead is other now", 0, () -> x.referent(1, 0));
        check.due("so it is read", 1110, () -> x.edge(1, 0, 1, 0));
        due("once more", x, 3);
    }

    private static void mendsDontCount() {
        ReadingChart x = new ReadingChart();
        for (int k = 0; k < 3; k++) {
            x.word(0);
        }
        x.reading(0, 0, 5, 1, 0, 0);
        x.reading(1, 1, 2, 2, 0, 0);
        x.reading(2, 1, 2, 1, 0, 0);
        x.rule(9, 5, 2, 2);
        x.equate(0, 0, 1, 2, 7);
        x.append(0, 0);
        x.append(0, 1);
        check.due("mend", 102, () -> x.mend(0, 0));
        check.due("best", 1, () -> x.best(0));
        due("trying does not count", x, 1);
        check.due("the chart is as it was", 9000, () -> x.edge(0, 0, 2, 0));
        check.due("and its fault", 2, () -> x.fault(0, 0));
        check.due("mendAll", 0, () -> x.mendAll(0));
        due("ahead of the mends it was read, behind them it is read", x, 2);
        x.cost(0);
        due("which is kept", x, 2);
        x.change(0, 1, 1);
        check.due("mendAll of an old one", 0, () -> x.mendAll(0));
        due("ahead and behind", x, 4);
        check.due("mendAll with nothing to mend", 0, () -> x.mendAll(0));
        due("no more", x, 4);
    }

    public static void main(String[] args) {
        check.due("a new object", 0, () -> new ReadingChart().reads());
        whatReads();
        whatDoesNotRead();
        whatMakesItOld();
        nouns();
        nounsThatGiveNothing();
        nounsFromFarAhead();
        within();
        mendsDontCount();
        check.end();
    }
}
