import java.util.ArrayList;
import java.util.List;

/** Runs of 512 calls, chosen by a fixed sequence of numbers, against the plain telling of the document. */
public final class RandomRunsTest {
    private long seed;
    private int wrong = 0;
    private ReadingChart program;
    private Oracle oracle;
    private final List<String> told = new ArrayList<>();
    private final int[] seen = new int[16];
    private int words;
    private int rules;

    private int below(int limit) {
        seed = seed * 6364136223846793005L + 1442695040888963407L;
        return (int) ((seed >>> 33) % limit);
    }

    private int pick(int... values) {
        return values[below(values.length)];
    }

    /** Mostly 0 to high - 1; now and then something beyond. */
    private int near(int high) {
        int k = below(40);
        return k == 0 ? -1 : k == 1 ? high : k == 2 && below(8) == 0 ? pick(Integer.MAX_VALUE, Integer.MIN_VALUE, -2) : below(Math.max(1, high));
    }

    private long call(int op, int... a) {
        StringBuilder line = new StringBuilder(Calls.NAMES.get(op)).append('(');
        for (int k = 0; k < a.length; k++) {
            line.append(k == 0 ? "" : ", ").append(a[k]);
        }
        String want = Calls.answer(oracle, op, a);
        String got = Calls.answer(program, op, a);
        told.add(line.append(") = ").append(want).toString());
        if (!got.equals(want)) {
            wrong++;
            if (wrong <= 3) {
                System.out.println("answered " + got + " at the end of: " + String.join("; ", told));
            }
        }
        if (want.startsWith("throws.")) {
            return -99;
        }
        long answer = Long.parseLong(want);
        count(op, answer);
        return answer;
    }

    /** Counts what has come about, so that the runs can't silently become dull. */
    private void count(int op, long answer) {
        if (op == 18 && answer < 1000) {
            seen[answer > 0 ? 1 : 0]++;
        } else if (op == 20 && answer > 2) {
            seen[2]++;
        } else if (op == 24) {
            seen[answer >= 0 ? 3 : 4]++;
        } else if (op == 25) {
            seen[5 + (int) answer]++;
        } else if (op == 14 && answer >= 0) {
            seen[9]++;
        } else if (op == 22 && answer > 1) {
            seen[10]++;
        } else if (op == 15 && answer == 8) {
            seen[11]++;
        } else if (op == 30 && answer > 0) {
            seen[12]++;
        } else if (op == 13 && Long.bitCount(answer) < Long.bitCount(answer | answer >> 1 | answer >> 2)) {
            seen[13]++;
        }
    }

    private void start() {
        program = new ReadingChart();
        oracle = new Oracle();
        told.clear();
        words = 0;
        rules = 0;
    }

    private void tellWord(int categories, int values, int lemmas) {
        if (call(0, below(10) == 0 ? near(10) : below(2)) >= 0) {
            words++;
        }
        int many = pick(0, 1, 1, 1, 2, 2, 3, 4);
        for (int k = 0; k < many; k++) {
            tellReading(words - 1, categories, values, lemmas);
        }
    }

    private void tellReading(int word, int categories, int values, int lemmas) {
        call(1, word, below(lemmas), near(categories), feature(values), feature(values), below(3) == 0 ? feature(values) : 0);
    }

    private int feature(int values) {
        return below(60) == 0 ? near(4) : below(values + 1);
    }

    private void tellRule(int categories) {
        if (below(4) == 0) {
            int left = below(categories);
            if (call(6, pick(9, 9, left + 1, near(10)), left, -1, pick(1, 1, 1, 1, 2)) >= 0) {
                rules++;
            }
        } else if (call(6, below(3) == 0 ? 9 : near(categories), near(categories), below(5) == 0 ? 9 : near(categories),
                pick(1, 2, 1, 2, 1, 2, 0, 3)) >= 0) {
            rules++;
        }
        int many = pick(0, 1, 2, 3, 3, 4);
        for (int k = 0; k < many; k++) {
            call(7, rules - 1, below(4) == 0 ? near(3) : below(2), near(3), near(3), below(5) == 0 ? pick(0, 20, 21, -1) : pick(1, 2, 3, 5));
        }
    }

    private void tellStriker(int categories) {
        if (below(2) == 0) {
            call(4, near(categories), below(20) == 0 ? pick(0, 6, -6) : pick(-5, -4, -3, -2, -1, 1, 2, 3, 4, 5, -1, 1), near(categories));
        } else {
            call(5, near(categories), below(20) == 0 ? near(2) : pick(-1, 1), near(categories), pick(-1, below(categories), near(categories)));
        }
    }

    private void ask() {
        int s = below(50) == 0 ? near(4) : below(4);
        int op = 11 + below(19);
        switch (op) {
            case 12: case 13: case 14: call(op, s, near(6)); break;
            case 15: call(op, s, near(6), 1 + near(6)); break;
            case 16: case 17: {
                int from = below(4);
                int many = 1 + below(6 - from);
                call(op, s, from, many, near(5));
                break;
            }
            case 21: case 23: case 24: call(op, s, near(4)); break;
            case 27: call(27); break;
            case 28: call(30, s); break;
            case 29: call(31, s, near(4)); break;
            default: call(op, s); break;
        }
    }

    private void edit() {
        int s = below(50) == 0 ? near(4) : below(4);
        switch (below(6)) {
            case 0: case 1: case 2: call(8, s, near(words)); break;
            case 3: case 4: call(9, s, near(4), near(words)); break;
            default: if (below(3) == 0) { call(10, s, near(4)); } else { call(9, s, near(5), near(words)); } break;
        }
    }

    private void tellStyle(int categories) {
        if (below(3) > 0) {
            int of = below(2) == 0 ? -1 : near(4);
            call(28, near(categories), pick(-1, below(categories), near(categories)), pick(-1, -1, below(categories)), of);
        } else {
            call(29, near(4), below(2) == 0 ? -1 : near(words));
        }
    }

    private void fillSentence(int s, int many) {
        for (int k = 0; k < many; k++) {
            call(8, s, below(Math.max(1, words)));
        }
    }

    private void run(int run) {
        start();
        seed = run * 7919L + 12345;
        int categories = pick(3, 4, 5, 6, 10);
        int values = pick(1, 2, 2, 3);
        int lemmas = pick(1, 2, 3);
        int many = 4 + below(12);
        for (int k = 0; k < many; k++) {
            tellWord(categories, values, lemmas);
        }
        for (int k = below(4); k > 0; k--) {
            call(2, below(2), near(categories), feature(values), feature(values), 0);
        }
        for (int k = 2 + below(10); k > 0; k--) {
            tellRule(categories);
        }
        for (int k = below(4); k > 0; k--) {
            tellStriker(categories);
        }
        for (int s = 0; s < 4; s++) {
            fillSentence(s, below(7));
        }
        boolean dull = below(4) == 0;
        while (told.size() < 512) {
            int k = below(100);
            if (k < 70) {
                ask();
            } else if (k < 85) {
                edit();
            } else if (k < 90) {
                tellStyle(categories);
            } else if (dull && k < 97) {
                tellLater(categories, values, lemmas);
            } else {
                call(27);
            }
        }
    }

    private void tellLater(int categories, int values, int lemmas) {
        switch (below(6)) {
            case 0: tellRule(categories); break;
            case 1: tellStriker(categories); break;
            case 2: call(2, near(10), near(10), feature(values), feature(values), feature(values)); break;
            case 3: tellReading(near(words), categories, values, lemmas); break;
            case 4: call(3, near(words)); break;
            default: tellWord(categories, values, lemmas); break;
        }
    }

    /** Few words that nearly all go together somehow: here most calls find a whole, faults and mends. */
    private void runOfGrammar(int run) {
        start();
        seed = run * 104729L + 99;
        int kinds = 2 + below(3);
        boolean genders = below(2) == 0;
        for (int kind = 0; kind < kinds; kind++) {
            for (int form = 1; form < 5; form++) {
                tell(kind % 2, kind, 1 + form % 2, genders ? 1 + form / 2 % 2 : 0, 0);
            }
        }
        for (int k = below(3); k > 0; k--) {
            tell(below(2), pick(0, 0, 1, 2, 3) % kinds, below(3), pick(0, 0, 1, 2), pick(0, 0, 0, 0, 1));
            tellReading(below(words), kinds, 2, 2);
        }
        if (below(3) == 0) {
            call(0, 1);
            words++;
            call(2, 1, pick(0, 1), below(3), below(3), 0);
        }
        boolean joins = below(3) > 0;
        for (int kind = 0; kind < kinds && joins; kind++) {
            int rule = (int) call(6, 9, kind, -1, 1);
            call(7, rule, 0, 0, 1, pick(0, 1));
            call(7, rule, 1, 1, 0, pick(0, 1));
        }
        if (joins) {
            int rule = (int) call(6, 9, 9, 9, pick(1, 2));
            for (int k = 2 + below(3); k > 0; k--) {
                int one = below(3);
                call(7, rule, below(2), one, (one + 1 + below(2)) % 3, pick(3, 1, 2, 5, 7, 20));
            }
        }
        for (int k = joins ? below(2) : 12; k > 0; k--) {
            tellAgreement(pick(9, 4, 5, below(kinds)), pick(9, 4, 5, below(kinds)), pick(9, 4, below(kinds)), pick(1, 2));
        }
        if (below(3) == 0) {
            tellStriker(kinds);
        }
        for (int s = 0; s < 4; s++) {
            fillSentence(s, pick(1, 2, 2, 3, 3, 4, 5, 6));
        }
        while (told.size() < 512) {
            int k = below(100);
            if (k < 80) {
                ask();
            } else if (k < 84) {
                edit();
            } else if (k < 94) {
                call(9, below(4), below(5), below(words));
            } else if (k < 95 && told.size() > 300) {
                tellLater(5, 2, 10);
            } else {
                call(27);
            }
        }
    }

    /** Words with many readings, whose features go up: here spans are full, and edges take the place of others. */
    private void runOfWideSpans(int run) {
        start();
        seed = run * 15485863L + 7;
        for (int k = 5 + below(4); k > 0; k--) {
            tell(below(2), below(2), 1 + below(3), 1 + below(3), below(4));
            for (int more = 3; more > 0; more--) {
                call(1, words - 1, below(2), below(3), 1 + below(3), 1 + below(3), below(4));
            }
        }
        for (int k = 4 + below(9); k > 0; k--) {
            int rule = (int) call(6, pick(0, 1, 2, 9), pick(0, 1, 2, 9), pick(0, 1, 2, 9), pick(1, 2));
            call(7, rule, 0, 0, pick(1, 2), 0);
            call(7, rule, 1, 0, pick(1, 2), 0);
            call(7, rule, below(3), pick(0, 1, 2), pick(1, 2), pick(0, 1, 2, 3, 4));
        }
        for (int k = below(4); k > 0; k--) {
            int rule = (int) call(6, pick(1, 2, 9), pick(0, 1, 2), -1, 1);
            call(7, rule, 0, 0, 1, 0);
            call(7, rule, pick(1, 2), 0, 1, 0);
        }
        for (int s = 0; s < 4; s++) {
            fillSentence(s, 2 + below(5));
        }
        while (told.size() < 300) {
            int k = below(100);
            if (k < 90) {
                ask();
            } else {
                call(9, below(4), below(5), below(words));
            }
        }
    }

    /** Any call with any arguments, small ones and those at the ends of what a number can be. */
    private void runOfWildArguments(int run) {
        start();
        seed = run * 32452843L + 3;
        while (told.size() < 512) {
            int op = below(Calls.NAMES.size());
            int[] args = new int[Calls.arguments(op)];
            for (int k = 0; k < args.length; k++) {
                args[k] = below(3) > 0 ? below(3) : pick(-1, -1, 3, 4, 5, 6, 7, 9, 10, 11, 16, 20, 21, 30, 31, 39, 40, 100,
                        -2, -5, -6, Integer.MAX_VALUE, Integer.MIN_VALUE, Integer.MAX_VALUE - 1);
            }
            call(op, args);
        }
    }

    private void tell(int lemma, int category, int first, int second, int third) {
        if (call(0, 0) >= 0) {
            words++;
        }
        call(1, words - 1, lemma, category, first, second, third);
    }

    private void tellAgreement(int parent, int left, int right, int head) {
        long rule = call(6, parent, left, right, head);
        if (rule < 0) {
            return;
        }
        for (int k = pick(1, 2, 3); k > 0; k--) {
            int one = below(3);
            call(7, (int) rule, below(2), one, (one + 1 + below(2)) % 3, pick(0, 1, 2, 5, 7, 20));
        }
    }

    public static void main(String[] args) {
        int runs = args.length > 0 ? Integer.parseInt(args[0]) : 400;
        RandomRunsTest test = new RandomRunsTest();
        for (int run = 0; run < runs; run++) {
            test.run(run);
            test.runOfGrammar(run + runs);
            test.runOfWideSpans(run);
            test.runOfWildArguments(run);
            test.runOfGrammar(run);
        }
        String[] what = {"wholes without cost", "wholes with a cost", "three faults or more", "mends", "faults without mend",
            "best 0", "best 1", "best 2", "best 3", "referents", "several fragments", "full spans", "style faults"};
        for (int k = 0; k < what.length; k++) {
            System.out.print(what[k] + " " + test.seen[k] + (k + 1 < what.length ? ", " : "\n"));
            if (test.seen[k] == 0) {
                System.out.println("the runs never come to: " + what[k]);
                test.wrong++;
            }
        }
        System.out.println(test.wrong + " answers are not as due");
        if (test.wrong != 0) {
            System.exit(1);
        }
    }
}
