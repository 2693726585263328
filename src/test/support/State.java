import java.util.Arrays;
import java.util.List;

/** All that an object of the program answers, and what it still takes; asking for that uses the object up. */
final class State {
    // Far more than there can be of anything, so that a program that never refuses does not keep a test going for ever.
    private static final int ENOUGH = 100;

    private final ReadingChart of;
    private final StringBuilder told = new StringBuilder();

    private State(ReadingChart of) {
        this.of = of;
    }

    /** The state of a new object after these calls, each its number and its arguments. */
    static String after(List<int[]> calls) {
        ReadingChart x = new ReadingChart();
        for (int[] call : calls) {
            Calls.answer(x, call[0], Arrays.copyOfRange(call, 1, call.length));
        }
        State state = new State(x);
        for (int sentence = 0; sentence < 4; sentence++) {
            state.tellSentence(sentence);
        }
        state.tell("reads");
        for (int pattern = 0; pattern < ENOUGH && state.tell("off", pattern, ReadingChart.NONE); pattern++) {
            int word = 0;
            while (word < ENOUGH && state.tell("off", pattern, word)) {
                word++;
            }
        }
        int words = 0;
        while (words < ENOUGH && state.tell("readings", words)) {
            words++;
        }
        state.tellRoom();
        return state.told.toString();
    }

    private boolean tell(String name, int... arguments) {
        String answer = Calls.answer(of, Calls.NAMES.indexOf(name), arguments);
        told.append(name).append(Arrays.toString(arguments)).append(answer).append('\n');
        return !answer.startsWith("throws");
    }

    private void tellSentence(int s) {
        tell("length", s);
        for (int place = 0; place < ENOUGH && tell("wordAt", s, place); place++) {
            tell("left", s, place);
            tell("referent", s, place);
            for (int many = 1; many < ENOUGH && tell("edges", s, place, many); many++) {
                for (int edge = 0; edge < ENOUGH && tell("edge", s, place, many, edge); edge++) {
                    tell("edgeCost", s, place, many, edge);
                }
            }
        }
        for (String name : List.of("cost", "costAnew", "faults", "fragments", "best", "styleFaults")) {
            tell(name, s);
        }
        for (String name : List.of("fault", "mend", "fragment", "styleFault")) {
            int k = 0;
            while (k < ENOUGH && tell(name, s, k)) {
                k++;
            }
        }
    }

    /** How much more can be told. */
    private void tellRoom() {
        for (int ending = 0; ending < 10; ending++) {
            tell("guess", ending, 0, 0, 0, 0);
        }
        tell("sure", 0, 1, 0);
        tell("pattern", 0, ReadingChart.NONE, ReadingChart.NONE, ReadingChart.NONE);
        for (int rule = 0; rule < 16; rule++) {
            tell("equate", rule, 0, 0, 1, 0);
        }
        tell("rule", 0, 0, 0, 1);
        tell("word", 0);
        for (int word = 0; word < 40; word++) {
            tell("reading", word, 0, 0, 0, 0, 0);
        }
        for (int sentence = 0; sentence < 4; sentence++) {
            tell("append", sentence, 0);
        }
    }
}
