/** Promises 6, 7 and 15: rules of striking and the readings that they leave. */
public final class StrikingTest {
    private static final Check check = new Check();

    /** Words whose categories are told by digits: word(x, 23) has a reading of 2 and one of 3. */
    private static int word(ReadingChart x, int... categories) {
        int word = x.word(0);
        for (int category : categories) {
            x.reading(word, 0, category, 0, 0, 0);
        }
        return word;
    }

    private static ReadingChart text(int[]... words) {
        ReadingChart x = new ReadingChart();
        for (int[] categories : words) {
            x.append(0, word(x, categories));
        }
        return x;
    }

    private static int[] of(int... categories) {
        return categories;
    }

    private static void leftOf(String what, ReadingChart x, int... due) {
        for (int place = 0; place < due.length; place++) {
            int at = place;
            check.due(what + ", place " + place, due[place], () -> x.left(0, at));
        }
    }

    private static void sureArguments() {
        ReadingChart x = new ReadingChart();
        check.argument("category -1", () -> x.sure(-1, 1, 0));
        check.argument("category 10", () -> x.sure(10, 1, 0));
        check.argument("offset 0", () -> x.sure(0, 0, 0));
        check.argument("offset -6", () -> x.sure(0, -6, 0));
        check.argument("offset 6", () -> x.sure(0, 6, 0));
        check.argument("other -1", () -> x.sure(0, 1, -1));
        check.argument("other 10", () -> x.sure(0, 1, 10));
        for (int k = 0; k < 7; k++) {
            int due = k;
            check.due("rule " + k, due, () -> x.sure(9, due < 4 ? -5 : 5, 9));
        }
        check.due("both kinds are numbered together", 7, () -> x.seen(0, 1, 0, -1));
        check.state("a ninth one", () -> x.sure(0, 1, 0));
        check.argument("arguments ahead of the state", () -> x.sure(0, 0, 0));
    }

    private static void seenArguments() {
        ReadingChart x = new ReadingChart();
        check.argument("category -1", () -> x.seen(-1, 1, 0, 0));
        check.argument("category 10", () -> x.seen(10, 1, 0, 0));
        check.argument("direction 0", () -> x.seen(0, 0, 0, 0));
        check.argument("direction 2", () -> x.seen(0, 2, 0, 0));
        check.argument("direction -2", () -> x.seen(0, -2, 0, 0));
        check.argument("other -1", () -> x.seen(0, 1, -1, 0));
        check.argument("other 10", () -> x.seen(0, 1, 10, 0));
        check.argument("barrier -2", () -> x.seen(0, 1, 0, -2));
        check.argument("barrier 10", () -> x.seen(0, 1, 0, 10));
        for (int k = 0; k < 8; k++) {
            int due = k;
            check.due("rule " + k, due, () -> x.seen(9, due % 2 == 0 ? 1 : -1, 9, due - 1));
        }
        check.state("a ninth one", () -> x.seen(0, 1, 0, 0));
        check.argument("arguments ahead of the state", () -> x.seen(0, 2, 0, 0));
    }

    private static void leftArguments() {
        ReadingChart x = text(of(2, 3), of());
        check.index("sentence -1", () -> x.left(-1, 0));
        check.index("sentence 4", () -> x.left(4, 0));
        check.index("place -1", () -> x.left(0, -1));
        check.index("place 2", () -> x.left(0, 2));
        check.index("an empty sentence", () -> x.left(1, 0));
        leftOf("all are left, or none is there", x, 3, 0);
        check.due("nothing was read for it", 0, () -> x.reads());
    }

    private static void sure() {
        ReadingChart x = text(of(3), of(2, 0), of(2, 3), of(2));
        x.sure(2, -1, 3);
        // Place 1 has 3 ahead; place 2 has 0 ahead; place 3 has no other one.
        leftOf("SURE ahead", x, 1, 2, 3, 1);

        ReadingChart y = text(of(2, 0), of(3, 4), of(2, 0), of(3, 3));
        y.sure(2, 1, 3);
        leftOf("SURE behind: all that it has left must be of the category", y, 3, 3, 2, 3);

        ReadingChart z = text(of(2, 0), of(5), of(2, 0));
        z.sure(2, 2, 2);
        leftOf("two places behind, but not sure", z, 3, 1, 3);
        z.sure(0, -2, 0);
        leftOf("not sure ahead", z, 3, 1, 3);

        ReadingChart w = text(of(2, 0), of(), of(2, 0));
        w.sure(2, 1, 3);
        leftOf("a word without readings is not sure of anything", w, 3, 0, 3);

        ReadingChart last = text(of(2, 2));
        last.sure(2, -1, 2);
        leftOf("nothing stands ahead of it", last, 3);
        last.append(0, word(last, 2));
        last.append(0, word(last, 2, 5, 2));
        last.sure(2, -5, 2);
        leftOf("several readings of the category go at once", last, 3, 1, 2);

        ReadingChart far = text(of(2, 0), of(5), of(5), of(5), of(5), of(3));
        far.sure(2, 5, 3);
        leftOf("five places behind", far, 2, 1, 1, 1, 1, 1);
        far.change(0, 0, 5);
        far.change(0, 5, 0);
        far.sure(0, -5, 3);
        leftOf("five places ahead", far, 1, 1, 1, 1, 1, 1);
    }

    private static void seen() {
        ReadingChart x = text(of(2, 0), of(5), of(3));
        x.seen(2, 1, 3, -1);
        leftOf("SEEN behind", x, 2, 1, 1);

        ReadingChart barred = text(of(2, 0), of(6), of(3));
        barred.seen(2, 1, 3, 6);
        leftOf("ahead of it comes the barrier", barred, 3, 1, 1);

        ReadingChart behind = text(of(2, 0), of(3), of(6));
        behind.seen(2, 1, 3, 6);
        leftOf("the barrier comes behind it", behind, 2, 1, 1);

        ReadingChart both = text(of(2, 0), of(3, 6));
        both.seen(2, 1, 3, 6);
        leftOf("one that has both counts as the barrier", both, 3, 3);

        ReadingChart alike = text(of(2, 0), of(5), of(3, 6));
        alike.seen(2, 1, 3, 3);
        leftOf("both alike: seen", alike, 2, 1, 3);

        ReadingChart ahead = text(of(3), of(5), of(2, 0), of(2, 0));
        ahead.seen(2, -1, 3, 0);
        // The word at place 3 sees a 0 at place 2 first; that one sees 3.
        leftOf("SEEN ahead, with the barrier that stays", ahead, 1, 1, 2, 3);

        ReadingChart self = text(of(2, 3));
        self.seen(2, 1, 3, -1);
        self.seen(2, -1, 3, -1);
        leftOf("the word itself is not looked at", self, 3);

        ReadingChart only = text(of(2, 2), of(3));
        only.seen(2, 1, 3, -1);
        leftOf("never the last category", only, 3, 1);
    }

    private static void rounds() {
        // Rule 0 needs what rule 1 strikes, so that it comes in the second round.
        ReadingChart x = text(of(2, 0), of(3, 4), of(5));
        x.sure(2, 1, 3);
        x.sure(4, 1, 5);
        leftOf("again and again", x, 2, 1, 1);

        // From left to right: what was struck at place 1 counts at place 2 in the same round.
        ReadingChart chain = text(of(7), of(7, 8), of(7, 8), of(7, 8), of(7, 8), of(7, 8));
        chain.sure(8, -1, 7);
        leftOf("a chain to the right", chain, 1, 1, 1, 1, 1, 1);

        ReadingChart back = text(of(7, 8), of(7, 8), of(7, 8), of(7, 8), of(7, 8), of(7));
        back.sure(8, 1, 7);
        leftOf("a chain to the left takes rounds", back, 1, 1, 1, 1, 1, 1);

        // The order matters: rule 0 strikes 2 first, and then 3 is the last one.
        ReadingChart order = text(of(2, 3), of(5));
        order.sure(2, 1, 5);
        order.sure(3, 1, 5);
        leftOf("by rising numbers", order, 2, 1);

        // In one round the word at place 0 is looked at ahead of the one at place 1.
        ReadingChart mutual = text(of(2, 3), of(2, 3));
        mutual.seen(2, 1, 2, -1);
        mutual.seen(2, -1, 2, -1);
        leftOf("place 0 is struck, and then nothing is seen from place 1", mutual, 2, 3);
    }

    private static void otherSentences() {
        ReadingChart x = text(of(3), of(2, 0));
        x.append(1, 1);
        x.sure(2, -1, 3);
        check.due("within its sentence", 2, () -> x.left(0, 1));
        check.due("not from the sentence ahead", 3, () -> x.left(1, 0));
        x.remove(0, 0);
        check.due("after the word ahead is gone", 3, () -> x.left(0, 0));
    }

    private static void words() {
        ReadingChart x = text(of(3), of(2, 0));
        x.sure(2, -1, 3);
        leftOf("struck", x, 1, 2);
        x.reading(0, 0, 4, 0, 0, 0);
        leftOf("no longer sure", x, 3, 3);
        int guessed = x.word(7);
        x.append(0, guessed);
        x.guess(7, 2, 0, 0, 0);
        x.guess(7, 5, 0, 0, 0);
        leftOf("guesses count as readings", x, 3, 3, 3);
        x.sure(5, -2, 9);
        x.seen(5, -1, 0, -1);
        leftOf("and are struck", x, 3, 3, 1);
    }

    public static void main(String[] args) {
        sureArguments();
        seenArguments();
        leftArguments();
        sure();
        seen();
        rounds();
        otherSentences();
        words();
        check.end();
    }
}
