/** Promises 8 and 9: rules of grammar and their equations, with what using them gives. */
public final class GrammarTest {
    private static final Check check = new Check();

    private static void ruleArguments() {
        ReadingChart x = new ReadingChart();
        check.argument("parent -1", () -> x.rule(-1, 0, 0, 1));
        check.argument("parent 10", () -> x.rule(10, 0, 0, 1));
        check.argument("left -1", () -> x.rule(0, -1, 0, 1));
        check.argument("left 10", () -> x.rule(0, 10, 0, 1));
        check.argument("right -2", () -> x.rule(0, 0, -2, 1));
        check.argument("right 10", () -> x.rule(0, 0, 10, 1));
        check.argument("head 0", () -> x.rule(0, 0, 0, 0));
        check.argument("head 3", () -> x.rule(0, 0, 0, 3));
        check.argument("no right part: parent as left", () -> x.rule(3, 3, -1, 1));
        check.argument("no right part: parent below left", () -> x.rule(2, 3, -1, 1));
        check.argument("no right part: head 2", () -> x.rule(4, 3, -1, 2));
        check.due("with a right part the parent may be as low as it likes", 0, () -> x.rule(0, 9, 9, 2));
        check.due("parent just above left", 1, () -> x.rule(4, 3, -1, 1));
        for (int k = 2; k < 16; k++) {
            int due = k;
            check.due("rule " + k, due, () -> x.rule(9, 0, 0, 1));
        }
        check.state("a seventeenth one", () -> x.rule(9, 0, 0, 1));
        check.argument("arguments ahead of the state", () -> x.rule(9, 0, 0, 3));
    }

    private static void equateArguments() {
        ReadingChart x = new ReadingChart();
        x.rule(9, 0, 1, 1);
        x.rule(9, 0, -1, 1);
        check.index("rule 2, though all else is wrong too", () -> x.equate(2, 3, 3, 3, 21));
        check.index("rule -1", () -> x.equate(-1, 0, 0, 1, 0));
        check.argument("feature -1", () -> x.equate(0, -1, 0, 1, 0));
        check.argument("feature 3", () -> x.equate(0, 3, 0, 1, 0));
        check.argument("one -1", () -> x.equate(0, 0, -1, 1, 0));
        check.argument("one 3", () -> x.equate(0, 0, 3, 1, 0));
        check.argument("other -1", () -> x.equate(0, 0, 0, -1, 0));
        check.argument("other 3", () -> x.equate(0, 0, 0, 3, 0));
        check.argument("cost -1", () -> x.equate(0, 0, 0, 1, -1));
        check.argument("cost 21", () -> x.equate(0, 0, 0, 1, 21));
        check.argument("both the same", () -> x.equate(0, 0, 1, 1, 0));
        check.argument("no right part to be the one", () -> x.equate(1, 0, 2, 1, 0));
        check.argument("no right part to be the other", () -> x.equate(1, 0, 0, 2, 0));
        check.due("equation 0", 0, () -> x.equate(0, 0, 1, 2, 20));
        check.due("equation 1", 1, () -> x.equate(0, 1, 2, 1, 0));
        check.due("of another rule", 0, () -> x.equate(1, 2, 1, 0, 5));
        check.due("equation 2", 2, () -> x.equate(0, 0, 1, 2, 20));
        check.state("a fourth one", () -> x.equate(0, 0, 1, 2, 20));
        check.argument("arguments ahead of the state", () -> x.equate(0, 0, 1, 2, 21));
    }

    /** Two words of the categories 2 and 3, neither nouns nor pronouns, with these features, and a rule of 9. */
    private static ReadingChart pair(int left, int right) {
        ReadingChart x = new ReadingChart();
        x.word(0);
        x.word(0);
        x.reading(0, 0, 2, left / 100, left / 10 % 10, left % 10);
        x.reading(1, 0, 3, right / 100, right / 10 % 10, right % 10);
        x.append(0, 0);
        x.append(0, 1);
        x.rule(9, 2, 3, 1);
        return x;
    }

    private static void dueEdge(String what, ReadingChart x, int edge, int cost) {
        check.due(what, edge, () -> x.edge(0, 0, 2, 0));
        check.due(what + ", its cost", cost, () -> x.edgeCost(0, 0, 2, 0));
        check.due(what + ", anew", cost, () -> x.costAnew(0));
    }

    private static void equations() {
        ReadingChart open = pair(123, 321);
        dueEdge("the parent's features are open", open, 9000, 0);

        ReadingChart up = pair(123, 321);
        up.equate(0, 0, 0, 1, 0);
        up.equate(0, 1, 2, 0, 0);
        dueEdge("one of them is open", up, 9120, 0);
        up.equate(0, 2, 1, 2, 4);
        dueEdge("they differ: relaxed", up, 9120, 4);

        ReadingChart never = pair(123, 321);
        never.equate(0, 2, 1, 2, 0);
        check.due("they differ: no edge", 0, () -> never.edges(0, 0, 2));
        check.due("nor a whole", 1000, () -> never.cost(0));
        check.due("nor anew", 1000, () -> never.costAnew(0));

        ReadingChart same = pair(123, 123);
        same.equate(0, 2, 1, 2, 0);
        same.equate(0, 1, 1, 2, 9);
        dueEdge("both are the same", same, 9000, 0);

        ReadingChart through = pair(100, 000);
        through.equate(0, 0, 1, 2, 0);
        through.equate(0, 0, 0, 2, 0);
        dueEdge("what a part became goes on to the parent", through, 9100, 0);
        check.due("but the part itself stays open", 3000, () -> through.edge(0, 1, 1, 0));

        ReadingChart order = pair(100, 000);
        order.equate(0, 0, 0, 2, 0);
        order.equate(0, 0, 1, 2, 0);
        dueEdge("in order: the parent was joined while both were open", order, 9000, 0);

        ReadingChart stay = pair(100, 200);
        stay.equate(0, 0, 1, 2, 3);
        stay.equate(0, 0, 1, 2, 5);
        stay.equate(0, 0, 2, 0, 20);
        dueEdge("relaxed, both stay: relaxed again", stay, 9200, 8);
        check.due("two faults", 2, () -> stay.faults(0));

        ReadingChart thrice = pair(100, 200);
        thrice.equate(0, 0, 0, 1, 20);
        thrice.equate(0, 0, 0, 2, 20);
        thrice.equate(0, 0, 1, 2, 20);
        dueEdge("the parent against a part", thrice, 9100, 40);
        check.due("the second equation", 102, () -> thrice.fault(0, 0));
        check.due("the third equation", 202, () -> thrice.fault(0, 1));
    }

    private static void adding() {
        ReadingChart x = pair(100, 200);
        x.equate(0, 0, 1, 2, 7);
        x.rule(9, 2, 3, 2);
        x.equate(1, 0, 1, 2, 7);
        check.due("alike, and as dear: left away", 0, () -> x.fault(0, 0) / 1000);
        x.rule(9, 2, 3, 2);
        x.equate(2, 0, 1, 2, 6);
        check.due("alike, and cheaper: takes the place", 2, () -> x.fault(0, 0) / 1000);
        check.due("one edge", 1, () -> x.edges(0, 0, 2));
        dueEdge("its cost", x, 9000, 6);
        x.rule(9, 2, 3, 1);
        x.equate(3, 0, 0, 1, 0);
        x.equate(3, 0, 2, 1, 6);
        check.due("other features: another edge", 2, () -> x.edges(0, 0, 2));
        check.due("behind it", 9100, () -> x.edge(0, 0, 2, 1));
        check.due("as dear: the first one is the whole", 2, () -> x.fault(0, 0) / 1000);
    }

    /** Two words of four readings each: 16 pairs for a span of 8. */
    private static void fullSpan() {
        ReadingChart x = new ReadingChart();
        x.word(0);
        x.word(0);
        for (int k = 0; k < 4; k++) {
            x.reading(0, 0, 2, k, 0, 0);
            x.reading(1, 0, 3, 0, k, 0);
        }
        x.append(0, 0);
        x.append(0, 1);
        x.rule(9, 2, 3, 1);
        x.equate(0, 0, 0, 1, 0);
        x.equate(0, 1, 0, 2, 0);
        check.due("eight at most", 8, () -> x.edges(0, 0, 2));
        check.due("by the left edges, then the right ones", 9010, () -> x.edge(0, 0, 2, 1));
        check.due("the last one", 9130, () -> x.edge(0, 0, 2, 7));
        check.index("no ninth one", () -> x.edge(0, 0, 2, 8));
        x.rule(8, 2, 3, 1);
        x.rule(9, 8, -1, 1);
        check.due("a full span takes nothing else", 8, () -> x.edges(0, 0, 2));
    }

    private static void withoutRightPart() {
        ReadingChart x = new ReadingChart();
        x.word(0);
        x.reading(0, 0, 0, 1, 2, 3);
        x.append(0, 0);
        x.rule(9, 5, -1, 1);
        x.rule(5, 3, -1, 1);
        x.rule(5, 0, -1, 1);
        x.rule(3, 0, -1, 1);
        x.equate(0, 1, 0, 1, 0);
        x.equate(2, 1, 0, 1, 0);
        x.equate(3, 2, 0, 1, 0);
        // By rising parents: 3 of 0 (rule 3), 5 of 3 (rule 1), 5 of 0 (rule 2), 9 of both (rule 0).
        int[] due = {123, 3003, 5000, 5020, 9000, 9020};
        check.due("all of them", due.length, () -> x.edges(0, 0, 1));
        for (int k = 0; k < due.length; k++) {
            int at = k;
            check.due("edge " + k, due[k], () -> x.edge(0, 0, 1, at));
        }
        check.due("a whole of one word", 0, () -> x.cost(0));
    }

    /** All 16 rules are without a right part, and told from the highest parent downwards. */
    private static void manyWithoutRightPart() {
        ReadingChart x = new ReadingChart();
        x.word(0);
        x.reading(0, 0, 2, 1, 2, 3);
        x.append(0, 0);
        for (int k = 0; k < 16; k++) {
            int parent = 9 - k % 7;
            x.rule(parent, parent - 1, -1, 1);
            x.equate(k, k / 7, 0, 1, 0);
        }
        // 3 of 2 by the rules 6 and 13, and each of these upwards by two rules; the spans of 8 are soon full.
        int[] due = {2123, 3100, 3020, 4100, 4000, 4020, 5100, 5000};
        check.due("all that there is room for", due.length, () -> x.edges(0, 0, 1));
        for (int k = 0; k < due.length; k++) {
            int at = k;
            check.due("edge " + k, due[k], () -> x.edge(0, 0, 1, at));
        }
    }

    public static void main(String[] args) {
        ruleArguments();
        equateArguments();
        equations();
        adding();
        fullSpan();
        withoutRightPart();
        manyWithoutRightPart();
        check.end();
    }
}
