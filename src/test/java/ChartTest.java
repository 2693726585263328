/** Promises 17 to 25: edges, costs, faults and fragments of a sentence. */
public final class ChartTest {
    private static final Check check = new Check();

    private static final int RED = 0;
    private static final int BOY_1 = 1;
    private static final int BOYS_2 = 2;
    private static final int SINGS_1 = 3;
    private static final int SING_2 = 4;
    private static final int BARE = 5;

    /** Adjectives (3), subjects (5) of the number 1 or 2, verbs (2); a subject and a verb are a whole. */
    private static ReadingChart text(int... words) {
        ReadingChart x = new ReadingChart();
        for (int k = 0; k < 6; k++) {
            x.word(0);
        }
        x.reading(RED, 0, 3, 2, 0, 0);
        x.reading(BOY_1, 1, 5, 1, 0, 0);
        x.reading(BOYS_2, 1, 5, 2, 0, 0);
        x.reading(SINGS_1, 2, 2, 1, 0, 0);
        x.reading(SING_2, 2, 2, 2, 0, 0);
        x.rule(5, 3, 5, 2);
        x.equate(0, 0, 1, 2, 3);
        x.equate(0, 0, 0, 2, 0);
        x.rule(9, 5, 2, 2);
        x.equate(1, 0, 1, 2, 7);
        x.rule(9, 9, 9, 1);
        for (int word : words) {
            x.append(0, word);
        }
        return x;
    }

    private static void arguments() {
        ReadingChart x = text(RED, BOY_1, SING_2);
        check.index("edges(-1, 0, 1)", () -> x.edges(-1, 0, 1));
        check.index("edges(4, 0, 1)", () -> x.edges(4, 0, 1));
        check.index("edges(0, -1, 1)", () -> x.edges(0, -1, 1));
        check.index("edges(0, 3, 1)", () -> x.edges(0, 3, 1));
        check.index("edges(0, 0, 0)", () -> x.edges(0, 0, 0));
        check.index("edges(0, 1, -1)", () -> x.edges(0, 1, -1));
        check.index("edges(0, 0, 4)", () -> x.edges(0, 0, 4));
        check.index("edges(0, 2, 2)", () -> x.edges(0, 2, 2));
        check.index("edges(0, 2, greatest)", () -> x.edges(0, 2, Integer.MAX_VALUE));
        check.index("edges(0, greatest, greatest)", () -> x.edges(0, Integer.MAX_VALUE, Integer.MAX_VALUE));
        check.index("edges(0, 1, least)", () -> x.edges(0, 1, Integer.MIN_VALUE));
        check.index("edges of an empty sentence", () -> x.edges(1, 0, 1));
        check.index("edge(4, 0, 1, 0)", () -> x.edge(4, 0, 1, 0));
        check.index("edge(0, 2, 2, 0)", () -> x.edge(0, 2, 2, 0));
        check.index("edgeCost(-1, 0, 1, 0)", () -> x.edgeCost(-1, 0, 1, 0));
        check.index("edgeCost(0, 0, 0, 0)", () -> x.edgeCost(0, 0, 0, 0));
        int[] none = {-1, 4, Integer.MAX_VALUE};
        for (int s : none) {
            check.index("cost(" + s + ")", () -> x.cost(s));
            check.index("costAnew(" + s + ")", () -> x.costAnew(s));
            check.index("faults(" + s + ")", () -> x.faults(s));
            check.index("fault(" + s + ", 0)", () -> x.fault(s, 0));
            check.index("fragments(" + s + ")", () -> x.fragments(s));
            check.index("fragment(" + s + ", 0)", () -> x.fragment(s, 0));
        }
        check.due("nothing was read by any of these", 0, () -> x.reads());
        check.index("edge(0, 0, 1, 1)", () -> x.edge(0, 0, 1, 1));
        check.index("edge(0, 0, 1, -1)", () -> x.edge(0, 0, 1, -1));
        check.index("edgeCost(0, 0, 2, 1)", () -> x.edgeCost(0, 0, 2, 1));
        check.index("edgeCost(0, 0, 2, greatest)", () -> x.edgeCost(0, 0, 2, Integer.MAX_VALUE));
        check.index("fault(0, 2)", () -> x.fault(0, 2));
        check.index("fault(0, -1)", () -> x.fault(0, -1));
        check.index("fragment(0, 1)", () -> x.fragment(0, 1));
        check.index("fragment(0, -1)", () -> x.fragment(0, -1));
        check.due("but by these", 1, () -> x.reads());
    }

    private static void edgesAndCosts() {
        ReadingChart x = text(RED, BOY_1, SING_2);
        check.due("one of a word", 1, () -> x.edges(0, 0, 1));
        check.due("red", 3200, () -> x.edge(0, 0, 1, 0));
        check.due("red boy", 5100, () -> x.edge(0, 0, 2, 0));
        check.due("its cost", 3, () -> x.edgeCost(0, 0, 2, 0));
        check.due("boy sing", 9000, () -> x.edge(0, 1, 2, 0));
        check.due("its cost", 7, () -> x.edgeCost(0, 1, 2, 0));
        check.due("red boy sing", 9000, () -> x.edge(0, 0, 3, 0));
        check.due("parts and relaxed equations together", 10, () -> x.edgeCost(0, 0, 3, 0));
        check.due("the sentence", 10, () -> x.cost(0));
        check.due("anew", 10, () -> x.costAnew(0));
        check.due("one fragment", 1, () -> x.fragments(0));
        check.due("the whole", 3, () -> x.fragment(0, 0));
        x.change(0, 0, BARE);
        check.due("no edge of a bare word", 0, () -> x.edges(0, 0, 1));
        check.due("no edge with it", 0, () -> x.edges(0, 0, 3));
        check.due("broken", 1000, () -> x.cost(0));
        check.due("broken anew", 1000, () -> x.costAnew(0));
        check.due("no faults", 0, () -> x.faults(0));
        check.index("not even one", () -> x.fault(0, 0));
    }

    private static void whole() {
        ReadingChart x = text(BOY_1);
        check.due("a word that is no whole", 1000, () -> x.cost(0));
        x.rule(9, 5, -1, 1);
        check.due("a whole of one word", 0, () -> x.cost(0));
        check.due("no words", 1000, () -> x.cost(1));
        check.due("no words anew", 1000, () -> x.costAnew(1));
        check.due("no words, no faults", 0, () -> x.faults(1));
        check.due("no words, no fragments", 0, () -> x.fragments(1));
        check.index("nor a first one", () -> x.fragment(1, 0));

        ReadingChart least = text(BOY_1, SING_2);
        check.due("dear", 7, () -> least.cost(0));
        least.rule(9, 5, 2, 1);
        least.equate(3, 0, 0, 1, 0);
        least.equate(3, 0, 0, 2, 5);
        check.due("two wholes", 2, () -> least.edges(0, 0, 2));
        check.due("the cheaper one", 5, () -> least.cost(0));
        check.due("its rule", 3102, () -> least.fault(0, 0));
        check.due("anew by its rules", 5, () -> least.costAnew(0));
    }

    private static void faults() {
        ReadingChart x = text(RED, BOY_1, SING_2, RED, BOY_1, SING_2);
        check.due("the cost", 20, () -> x.cost(0));
        check.due("anew", 20, () -> x.costAnew(0));
        check.due("four faults", 4, () -> x.faults(0));
        // The whole itself, then its left part with what that is made of, then its right part.
        int[] due = {1003, 2, 1033, 32};
        for (int k = 0; k < due.length; k++) {
            int at = k;
            check.due("fault " + k, due[k], () -> x.fault(0, at));
        }
        x.change(0, 2, SINGS_1);
        check.due("three faults", 3, () -> x.faults(0));
        check.due("of the left part first", 2, () -> x.fault(0, 0));
        check.due("then of the right one", 1033, () -> x.fault(0, 1));
        x.equate(2, 0, 0, 1, 0);
        check.due("an equation about open features is no fault", 3, () -> x.faults(0));
        x.remove(0, 0);
        check.due("without the adjective", 1023, () -> x.fault(0, 0));
        check.due("and the one behind", 22, () -> x.fault(0, 1));
    }

    private static void fragments() {
        ReadingChart x = text(BOY_1, RED, BARE, RED, BOYS_2, SING_2);
        // Nothing goes over the bare word; boy and red don't go together.
        int[] due = {1, 11, 21, 33};
        check.due("four fragments", due.length, () -> x.fragments(0));
        for (int k = 0; k < due.length; k++) {
            int at = k;
            check.due("fragment " + k, due[k], () -> x.fragment(0, at));
        }
        check.index("no fifth one", () -> x.fragment(0, 4));

        ReadingChart bare = text(BARE, BARE);
        check.due("each bare word", 2, () -> bare.fragments(0));
        check.due("by itself", 11, () -> bare.fragment(0, 1));
    }

    /** Three words of the category 2, of which two are an edge, however one parts them. */
    private static void choiceOfFragments() {
        ReadingChart x = new ReadingChart();
        for (int k = 0; k < 4; k++) {
            x.word(0);
            x.reading(k, 0, 2, k, 0, 0);
        }
        x.append(0, 1);
        x.append(0, 1);
        x.append(0, 1);
        x.rule(3, 2, 2, 1);
        x.equate(0, 0, 1, 2, 4);
        check.due("two fragments", 2, () -> x.fragments(0));
        check.due("as dear: the first one the longest", 2, () -> x.fragment(0, 0));
        check.due("then the rest", 21, () -> x.fragment(0, 1));
        x.change(0, 0, 2);
        check.due("the cheaper ones", 1, () -> x.fragment(0, 0));
        check.due("the longer one behind", 12, () -> x.fragment(0, 1));
        x.change(0, 2, 3);
        check.due("as dear again", 2, () -> x.fragment(0, 0));
        x.append(0, 3);
        x.append(0, 2);
        // 2 1 3 3 2: pairs cost 4, but 3 3 costs 0; three fragments at least.
        check.due("three of five", 3, () -> x.fragments(0));
        check.due("the cheapest pairs", 2, () -> x.fragment(0, 0));
        check.due("with the free one", 22, () -> x.fragment(0, 1));
        check.due("and the rest", 41, () -> x.fragment(0, 2));
        x.rule(4, 3, 3, 1);
        check.due("fewer ones, though dearer", 2, () -> x.fragments(0));
        check.due("the longest first", 4, () -> x.fragment(0, 0));
        check.due("still no whole", 1000, () -> x.cost(0));
    }

    /** A part that was made twice, the cheaper way later, is the cheaper one in what is made of it. */
    private static void replacedParts() {
        ReadingChart x = new ReadingChart();
        x.word(0);
        x.reading(0, 0, 2, 1, 0, 0);
        x.word(0);
        x.reading(1, 0, 3, 2, 0, 0);
        x.append(0, 0);
        x.append(0, 1);
        x.rule(4, 2, 3, 1);
        x.equate(0, 0, 1, 2, 9);
        x.rule(6, 4, -1, 1);
        x.rule(4, 2, 3, 2);
        x.equate(2, 0, 1, 2, 5);
        x.rule(9, 6, -1, 1);
        check.due("the cheaper one", 5, () -> x.cost(0));
        check.due("anew", 5, () -> x.costAnew(0));
        check.due("its fault", 2002, () -> x.fault(0, 0));
        check.due("three edges", 3, () -> x.edges(0, 0, 2));
        check.due("the replaced one stays the first", 4000, () -> x.edge(0, 0, 2, 0));
    }

    public static void main(String[] args) {
        arguments();
        edgesAndCosts();
        whole();
        faults();
        fragments();
        choiceOfFragments();
        replacedParts();
        check.end();
    }
}
