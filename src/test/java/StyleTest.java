/** Promises 30 to 33: patterns of style, their exceptions, and where they are switched off. */
public final class StyleTest {
    private static final Check check = new Check();

    /** Word k has the one category k; word 10 has 2 and 3, word 11 has no reading. */
    private static ReadingChart text(int... words) {
        ReadingChart x = new ReadingChart();
        for (int k = 0; k < 12; k++) {
            x.word(0);
        }
        for (int k = 0; k < 10; k++) {
            x.reading(k, 0, k, 0, 0, 0);
        }
        x.reading(10, 0, 2, 0, 0, 0);
        x.reading(10, 0, 3, 0, 0, 0);
        for (int word : words) {
            x.append(0, word);
        }
        return x;
    }

    private static void dueFaults(String what, ReadingChart x, int... due) {
        check.due(what, due.length, () -> x.styleFaults(0));
        for (int k = 0; k < due.length; k++) {
            int at = k;
            check.due(what + ", fault " + k, due[k], () -> x.styleFault(0, at));
        }
        check.index(what + ", no more", () -> x.styleFault(0, due.length));
    }

    private static void patternArguments() {
        ReadingChart x = new ReadingChart();
        check.index("of 0, though all else is wrong too", () -> x.pattern(10, -1, 0, 0));
        check.index("of -2", () -> x.pattern(0, -1, -1, -2));
        check.argument("first -1", () -> x.pattern(-1, -1, -1, -1));
        check.argument("first 10", () -> x.pattern(10, -1, -1, -1));
        check.argument("second -2", () -> x.pattern(0, -2, -1, -1));
        check.argument("second 10", () -> x.pattern(0, 10, -1, -1));
        check.argument("third -2", () -> x.pattern(0, 0, -2, -1));
        check.argument("third 10", () -> x.pattern(0, 0, 10, -1));
        check.argument("a third one without a second one", () -> x.pattern(0, -1, 0, -1));
        check.due("pattern 0", 0, () -> x.pattern(0, -1, -1, -1));
        check.index("of itself", () -> x.pattern(0, -1, -1, 1));
        for (int k = 1; k < 12; k++) {
            int due = k;
            check.due("pattern " + k, due, () -> x.pattern(9, 9, 9, due - 1));
        }
        check.state("a thirteenth one", () -> x.pattern(0, -1, -1, -1));
        check.argument("arguments ahead of the state", () -> x.pattern(0, -1, 9, -1));
        check.index("and no such pattern ahead of both", () -> x.pattern(0, -1, 9, 12));
    }

    private static void offArguments() {
        ReadingChart x = text(2);
        check.index("no pattern", () -> x.off(0, -1) ? 1 : 0);
        x.pattern(2, -1, -1, -1);
        check.index("pattern -1", () -> x.off(-1, -1) ? 1 : 0);
        check.index("pattern 1", () -> x.off(1, -1) ? 1 : 0);
        check.index("word 12", () -> x.off(0, 12) ? 1 : 0);
        check.index("word -2", () -> x.off(0, -2) ? 1 : 0);
        dueFaults("nothing was switched by what threw", x, 0);
        int[] none = {-1, 4};
        for (int s : none) {
            check.index("styleFaults(" + s + ")", () -> x.styleFaults(s));
            check.index("styleFault(" + s + ", 0)", () -> x.styleFault(s, 0));
        }
        check.index("styleFault(0, -1)", () -> x.styleFault(0, -1));
        check.index("styleFault of an empty sentence", () -> x.styleFault(1, 0));
        check.due("another sentence", 0, () -> x.styleFaults(1));
        check.due("nothing was read for it", 0, () -> x.reads());
    }

    private static void fitting() {
        ReadingChart x = text(2, 3, 2, 3, 2, 11);
        x.pattern(2, 3, 2, -1);
        x.pattern(2, -1, -1, -1);
        x.pattern(3, 2, -1, -1);
        dueFaults("by places, then numbers", x, 0, 10, 21, 2, 12, 23, 14);
        x.change(0, 4, 10);
        dueFaults("one of several readings is enough", x, 0, 10, 21, 2, 12, 23, 14);
        x.sure(2, -1, 3);
        // Of the word 10 at place 4 the category 2 is struck; the others have no other reading.
        dueFaults("but it must be left", x, 0, 10, 21, 12);
        x.remove(0, 5);
        x.remove(0, 4);
        dueFaults("not over the end", x, 0, 10, 21, 12);
    }

    private static void exceptions() {
        ReadingChart x = text(2, 3, 4, 2, 3, 5);
        x.pattern(2, -1, -1, -1);
        dueFaults("without exceptions", x, 0, 3);
        x.pattern(2, 3, -1, 0);
        dueFaults("excepted", x);
        x.pattern(2, 3, 4, 1);
        dueFaults("an exception of the exception", x, 0);
        x.pattern(2, 3, 4, 2);
        dueFaults("and one of that", x);
        x.pattern(3, 4, -1, 1);
        dueFaults("one that stands at another place changes nothing", x);
        x.pattern(2, 3, 5, 1);
        dueFaults("a second exception of the exception", x, 3);
        x.pattern(2, -1, -1, 0);
        dueFaults("one exception that stands is enough", x);
    }

    private static void switching() {
        ReadingChart x = text(2, 3, 2, 10);
        x.pattern(2, -1, -1, -1);
        x.pattern(2, 3, -1, 0);
        dueFaults("only the last word", x, 3);
        check.due("off for the word 10", 1, () -> x.off(0, 10) ? 1 : 0);
        dueFaults("so none", x);
        check.due("the exception off for the word 2", 1, () -> x.off(1, 2) ? 1 : 0);
        dueFaults("so it stands where the exception did", x, 0, 2);
        check.due("off for the word 3, which is not the first one", 1, () -> x.off(1, 3) ? 1 : 0);
        check.due("on again for the word 2", 0, () -> x.off(1, 2) ? 1 : 0);
        dueFaults("only the first word counts", x);
        check.due("the exception off altogether", 1, () -> x.off(1, -1) ? 1 : 0);
        dueFaults("again", x, 0, 2);
        check.due("off for a word beside that", 1, () -> x.off(1, 2) ? 1 : 0);
        check.due("on again altogether", 0, () -> x.off(1, -1) ? 1 : 0);
        dueFaults("but still off for the word", x, 0, 2);
        check.due("the pattern off altogether", 1, () -> x.off(0, -1) ? 1 : 0);
        dueFaults("nothing", x);
        check.due("on again", 0, () -> x.off(0, -1) ? 1 : 0);
        check.due("on again for the word 10", 0, () -> x.off(0, 10) ? 1 : 0);
        dueFaults("as at first, but for the exception", x, 0, 2, 3);
    }

    private static void many() {
        ReadingChart x = text(2, 2, 2, 2, 2, 2);
        int[] due = new int[72];
        for (int k = 0; k < 12; k++) {
            x.pattern(2, -1, -1, -1);
        }
        for (int k = 0; k < 72; k++) {
            due[k] = 10 * (k % 12) + k / 12;
        }
        dueFaults("twelve at each of six places", x, due);
    }

    public static void main(String[] args) {
        patternArguments();
        offArguments();
        fitting();
        exceptions();
        switching();
        many();
        check.end();
    }
}
