import java.util.ArrayList;
import java.util.Arrays;
import java.util.List;
import java.util.TreeMap;
import java.util.TreeSet;

/**
 * The document once more, told as plainly as can be and without any care for room or time,
 * for comparing it with the program. It shares no line with that.
 */
final class Oracle {
    static final int NONE = -1;

    static final class Reading {
        final int lemma;
        final int category;
        final int[] features;

        Reading(int lemma, int category, int... features) {
            this.lemma = lemma;
            this.category = category;
            this.features = features;
        }
    }

    static final class Equation {
        int feature;
        int one;
        int other;
        int cost;
    }

    static final class Rule {
        int parent;
        int left;
        int right;
        int head;
        final List<Equation> equations = new ArrayList<>();
    }

    static final class Relaxed {
        int equation;
        int[] valuesThen = {0, 0, 0};
    }

    static final class Edge {
        int from;
        int many;
        int category;
        int[] features;
        int cost;
        int rule = NONE;
        int reading = NONE;
        Edge left;
        Edge right;
        List<Relaxed> relaxed = new ArrayList<>();

        boolean alike(Edge e) {
            return category == e.category && Arrays.equals(features, e.features);
        }
    }

    static final class Found {
        final TreeMap<Integer, List<Edge>> spans = new TreeMap<>();
        List<Integer> words;

        List<Edge> span(int from, int many) {
            return spans.computeIfAbsent(100 * from + many, k -> new ArrayList<>());
        }
    }

    static final class Sentence {
        final List<Integer> words = new ArrayList<>();
        boolean mustRead = true;
        Found found;
        List<List<Integer>> given;
    }

    private final List<Integer> endings = new ArrayList<>();
    private final List<List<Reading>> told = new ArrayList<>();
    private final List<List<Reading>> guesses = new ArrayList<>();
    private final List<int[]> strikers = new ArrayList<>();
    private final List<Rule> rules = new ArrayList<>();
    private final List<Sentence> text = new ArrayList<>();
    private final List<int[]> patterns = new ArrayList<>();
    private final TreeSet<Integer> offs = new TreeSet<>();
    private int reads = 0;

    Oracle() {
        for (int i = 0; i < 10; i++) {
            guesses.add(new ArrayList<>());
        }
        for (int i = 0; i < 4; i++) {
            text.add(new Sentence());
        }
    }

    // ---- what may be wrong

    private static void index(boolean there) {
        if (!there) {
            throw new IndexOutOfBoundsException();
        }
    }

    private static void argument(boolean fits) {
        if (!fits) {
            throw new IllegalArgumentException();
        }
    }

    private static void state(boolean has) {
        if (!has) {
            throw new IllegalStateException();
        }
    }

    private static boolean in(int value, int low, int high) {
        return low <= value && value <= high;
    }

    private Sentence sentence(int s) {
        index(in(s, 0, 3));
        return text.get(s);
    }

    private void allMustBeRead() {
        text.forEach(s -> s.mustRead = true);
    }

    // ---- lexicon

    int word(int ending) {
        argument(in(ending, 0, 9));
        state(endings.size() < 40);
        endings.add(ending);
        told.add(new ArrayList<>());
        return endings.size() - 1;
    }

    int reading(int word, int lemma, int category, int first, int second, int third) {
        index(in(word, 0, endings.size() - 1));
        argument(in(lemma, 0, 30) && in(category, 0, 9) && in(first, 0, 3) && in(second, 0, 3) && in(third, 0, 3));
        state(told.get(word).size() < 4);
        told.get(word).add(new Reading(lemma, category, first, second, third));
        allMustBeRead();
        return told.get(word).size();
    }

    int guess(int ending, int category, int first, int second, int third) {
        argument(in(ending, 0, 9) && in(category, 0, 9) && in(first, 0, 3) && in(second, 0, 3) && in(third, 0, 3));
        state(guesses.get(ending).size() < 4);
        guesses.get(ending).add(new Reading(NONE, category, first, second, third));
        allMustBeRead();
        return guesses.get(ending).size();
    }

    private List<Reading> has(int word) {
        if (!told.get(word).isEmpty()) {
            return told.get(word);
        }
        List<Reading> guessed = new ArrayList<>();
        for (Reading r : guesses.get(endings.get(word))) {
            guessed.add(new Reading(100 + word, r.category, r.features));
        }
        return guessed;
    }

    int readings(int word) {
        index(in(word, 0, endings.size() - 1));
        return has(word).size();
    }

    // ---- striking

    int sure(int category, int offset, int other) {
        argument(in(category, 0, 9) && in(offset, -5, 5) && offset != 0 && in(other, 0, 9));
        state(strikers.size() < 8);
        strikers.add(new int[] {0, category, offset, other});
        allMustBeRead();
        return strikers.size() - 1;
    }

    int seen(int category, int direction, int other, int barrier) {
        argument(in(category, 0, 9) && (direction == 1 || direction == -1) && in(other, 0, 9)
                && (barrier == NONE || in(barrier, 0, 9)));
        state(strikers.size() < 8);
        strikers.add(new int[] {1, category, direction, other, barrier});
        allMustBeRead();
        return strikers.size() - 1;
    }

    private boolean anyOf(int word, TreeSet<Integer> left, int category) {
        return left.stream().anyMatch(k -> has(word).get(k).category == category);
    }

    private boolean holds(int[] striker, List<Integer> words, List<TreeSet<Integer>> left, int place) {
        if (striker[0] == 0) {
            int at = place + striker[2];
            return in(at, 0, words.size() - 1) && !left.get(at).isEmpty()
                    && left.get(at).stream().allMatch(k -> has(words.get(at)).get(k).category == striker[3]);
        }
        int firstOther = 99;
        int firstBarrier = 99;
        for (int steps = 1; steps < 6; steps++) {
            int at = place + steps * striker[2];
            if (in(at, 0, words.size() - 1)) {
                if (firstOther == 99 && anyOf(words.get(at), left.get(at), striker[3])) {
                    firstOther = steps;
                }
                if (firstBarrier == 99 && striker[4] != NONE && anyOf(words.get(at), left.get(at), striker[4])) {
                    firstBarrier = steps;
                }
            }
        }
        if (striker[3] == striker[4]) {
            return firstOther < 99;
        }
        return firstOther < firstBarrier;
    }

    private List<TreeSet<Integer>> leftOf(List<Integer> words) {
        List<TreeSet<Integer>> left = new ArrayList<>();
        for (int word : words) {
            TreeSet<Integer> all = new TreeSet<>();
            for (int k = 0; k < has(word).size(); k++) {
                all.add(k);
            }
            left.add(all);
        }
        boolean any = true;
        while (any) {
            any = false;
            for (int[] striker : strikers) {
                for (int place = 0; place < words.size(); place++) {
                    List<Reading> readings = has(words.get(place));
                    TreeSet<Integer> struck = new TreeSet<>(left.get(place));
                    struck.removeIf(k -> readings.get(k).category != striker[1]);
                    if (!struck.isEmpty() && struck.size() < left.get(place).size()
                            && holds(striker, words, left, place)) {
                        left.get(place).removeAll(struck);
                        any = true;
                    }
                }
            }
        }
        return left;
    }

    // ---- text

    int append(int s, int word) {
        Sentence own = sentence(s);
        index(in(word, 0, endings.size() - 1));
        state(own.words.size() < 6);
        own.words.add(word);
        own.mustRead = true;
        return own.words.size();
    }

    int change(int s, int place, int word) {
        Sentence own = sentence(s);
        index(in(place, 0, own.words.size() - 1));
        index(in(word, 0, endings.size() - 1));
        int was = own.words.set(place, word);
        own.mustRead |= was != word;
        return was;
    }

    int remove(int s, int place) {
        Sentence own = sentence(s);
        index(in(place, 0, own.words.size() - 1));
        own.mustRead = true;
        return own.words.remove(place);
    }

    int length(int s) {
        return sentence(s).words.size();
    }

    int wordAt(int s, int place) {
        index(in(place, 0, sentence(s).words.size() - 1));
        return sentence(s).words.get(place);
    }

    int left(int s, int place) {
        index(in(place, 0, sentence(s).words.size() - 1));
        int set = 0;
        for (int k : leftOf(sentence(s).words).get(place)) {
            set += 1 << k;
        }
        return set;
    }

    /** Sentence, place, feature 0 and feature 1 of the noun; null if there is none. */
    private int[] refersTo(int s, List<Integer> words, int place) {
        Reading pronoun = null;
        for (int k : leftOf(words).get(place)) {
            Reading r = has(words.get(place)).get(k);
            if (pronoun == null && r.category == 1) {
                pronoun = r;
            }
        }
        if (pronoun == null) {
            return null;
        }
        for (int there = s; there >= 0 && there >= s - 2; there--) {
            List<Integer> ahead = there == s ? words.subList(0, place) : text.get(there).words;
            List<TreeSet<Integer>> left = leftOf(there == s ? words : ahead);
            for (int at = ahead.size() - 1; at >= 0; at--) {
                for (int k : left.get(at)) {
                    Reading noun = has(ahead.get(at)).get(k);
                    if (noun.category == 0 && agree(noun, pronoun, 0) && agree(noun, pronoun, 1)) {
                        return new int[] {there, at, noun.features[0], noun.features[1]};
                    }
                }
            }
        }
        return null;
    }

    private static boolean agree(Reading a, Reading b, int f) {
        return a.features[f] * b.features[f] == 0 || a.features[f] == b.features[f];
    }

    int referent(int s, int place) {
        index(in(place, 0, sentence(s).words.size() - 1));
        int[] to = refersTo(s, sentence(s).words, place);
        return to == null ? NONE : 10 * to[0] + to[1];
    }

    // ---- grammar

    int rule(int parent, int left, int right, int head) {
        argument(in(parent, 0, 9) && in(left, 0, 9) && (right == NONE || in(right, 0, 9)) && in(head, 1, 2));
        argument(right != NONE || parent > left && head == 1);
        state(rules.size() < 16);
        Rule r = new Rule();
        r.parent = parent;
        r.left = left;
        r.right = right;
        r.head = head;
        rules.add(r);
        allMustBeRead();
        return rules.size() - 1;
    }

    int equate(int rule, int feature, int one, int other, int cost) {
        index(in(rule, 0, rules.size() - 1));
        argument(in(feature, 0, 2) && in(one, 0, 2) && in(other, 0, 2) && in(cost, 0, 20) && one != other);
        argument(rules.get(rule).right != NONE || one != 2 && other != 2);
        state(rules.get(rule).equations.size() < 3);
        Equation e = new Equation();
        e.feature = feature;
        e.one = one;
        e.other = other;
        e.cost = cost;
        rules.get(rule).equations.add(e);
        allMustBeRead();
        return rules.get(rule).equations.size() - 1;
    }

    private Edge use(int number, Edge left, Edge right) {
        Rule rule = rules.get(number);
        int[][] parts = {new int[3], left.features.clone(), right == null ? new int[3] : right.features.clone()};
        Edge made = new Edge();
        made.from = left.from;
        made.many = left.many + (right == null ? 0 : right.many);
        made.category = rule.parent;
        made.cost = left.cost + (right == null ? 0 : right.cost);
        made.rule = number;
        made.left = left;
        made.right = right;
        for (int k = 0; k < rule.equations.size(); k++) {
            Equation e = rule.equations.get(k);
            int one = parts[e.one][e.feature];
            int other = parts[e.other][e.feature];
            if (one == 0) {
                parts[e.one][e.feature] = other;
            } else if (other == 0) {
                parts[e.other][e.feature] = one;
            } else if (one != other) {
                if (e.cost == 0) {
                    return null;
                }
                made.cost += e.cost;
                Relaxed relaxed = new Relaxed();
                relaxed.equation = k;
                relaxed.valuesThen[e.one] = one;
                relaxed.valuesThen[e.other] = other;
                made.relaxed.add(relaxed);
            }
        }
        made.features = parts[0];
        return made;
    }

    private static void add(List<Edge> span, Edge made) {
        if (made == null) {
            return;
        }
        for (int k = 0; k < span.size(); k++) {
            if (span.get(k).alike(made)) {
                if (made.cost < span.get(k).cost) {
                    span.set(k, made);
                }
                return;
            }
        }
        if (span.size() < 8) {
            span.add(made);
        }
    }

    private Found readWords(int s, List<Integer> words) {
        Found found = new Found();
        found.words = new ArrayList<>(words);
        for (int many = 1; many <= words.size(); many++) {
            for (int from = 0; from + many <= words.size(); from++) {
                List<Edge> span = found.span(from, many);
                if (many == 1) {
                    readOne(s, words, from, span);
                }
                for (int part = 1; part < many; part++) {
                    for (int r = 0; r < rules.size(); r++) {
                        Rule rule = rules.get(r);
                        for (Edge left : found.span(from, part)) {
                            for (Edge right : found.span(from + part, many - part)) {
                                if (left.category == rule.left && right.category == rule.right) {
                                    add(span, use(r, left, right));
                                }
                            }
                        }
                    }
                }
                for (int parent = 0; parent < 10; parent++) {
                    for (int r = 0; r < rules.size(); r++) {
                        Rule rule = rules.get(r);
                        for (Edge part : new ArrayList<>(span)) {
                            if (rule.right == NONE && rule.parent == parent && part.category == rule.left) {
                                add(span, use(r, part, null));
                            }
                        }
                    }
                }
            }
        }
        return found;
    }

    private void readOne(int s, List<Integer> words, int place, List<Edge> span) {
        int[] to = refersTo(s, words, place);
        for (int k : leftOf(words).get(place)) {
            Reading r = has(words.get(place)).get(k);
            Edge e = new Edge();
            e.from = place;
            e.many = 1;
            e.category = r.category;
            e.features = r.features.clone();
            if (r.category == 1 && to != null) {
                e.features[0] = e.features[0] == 0 ? to[2] : e.features[0];
                e.features[1] = e.features[1] == 0 ? to[3] : e.features[1];
            }
            e.reading = k;
            add(span, e);
        }
    }

    private List<List<Integer>> givenTo(int s) {
        List<List<Integer>> all = new ArrayList<>();
        List<Integer> words = text.get(s).words;
        for (int place = 0; place < words.size(); place++) {
            int[] to = refersTo(s, words, place);
            all.add(to == null ? List.of(0, 0) : List.of(to[2], to[3]));
        }
        return all;
    }

    private Found read(int s) {
        Sentence own = sentence(s);
        List<List<Integer>> given = givenTo(s);
        if (own.mustRead || !given.equals(own.given)) {
            own.found = readWords(s, own.words);
            own.given = given;
            own.mustRead = false;
            reads++;
        }
        return own.found;
    }

    // ---- the chart

    private void span(int s, int from, int many) {
        Sentence own = sentence(s);
        index(from >= 0 && many >= 1 && (long) from + many <= own.words.size());
    }

    private Edge edgeAt(int s, int from, int many, int edge) {
        span(s, from, many);
        List<Edge> span = read(s).span(from, many);
        index(in(edge, 0, span.size() - 1));
        return span.get(edge);
    }

    int edges(int s, int from, int many) {
        span(s, from, many);
        return read(s).span(from, many).size();
    }

    int edge(int s, int from, int many, int edge) {
        Edge e = edgeAt(s, from, many, edge);
        return 1000 * e.category + 100 * e.features[0] + 10 * e.features[1] + e.features[2];
    }

    int edgeCost(int s, int from, int many, int edge) {
        return edgeAt(s, from, many, edge).cost;
    }

    private static Edge whole(Found found) {
        Edge best = null;
        if (!found.words.isEmpty()) {
            for (Edge e : found.span(0, found.words.size())) {
                if (e.category == 9 && (best == null || e.cost < best.cost)) {
                    best = e;
                }
            }
        }
        return best;
    }

    private static int costOf(Found found) {
        return whole(found) == null ? 1000 : whole(found).cost;
    }

    int cost(int s) {
        return costOf(read(s));
    }

    int costAnew(int s) {
        Edge whole = whole(read(s));
        return whole == null ? 1000 : anew(whole).cost;
    }

    private Edge anew(Edge e) {
        if (e.rule == NONE) {
            Edge leaf = new Edge();
            leaf.features = e.features.clone();
            return leaf;
        }
        return use(e.rule, anew(e.left), e.right == null ? null : anew(e.right));
    }

    private static final class Fault {
        Edge edge;
        Relaxed relaxed;
    }

    private static void collect(Edge e, List<Fault> into) {
        if (e == null) {
            return;
        }
        for (Relaxed r : e.relaxed) {
            Fault f = new Fault();
            f.edge = e;
            f.relaxed = r;
            into.add(f);
        }
        collect(e.left, into);
        collect(e.right, into);
    }

    private static List<Fault> faultsOf(Found found) {
        List<Fault> all = new ArrayList<>();
        collect(whole(found), all);
        return all;
    }

    int faults(int s) {
        return faultsOf(read(s)).size();
    }

    int fault(int s, int fault) {
        List<Fault> all = faultsOf(read(s));
        index(in(fault, 0, all.size() - 1));
        Fault f = all.get(fault);
        return 1000 * f.edge.rule + 100 * f.relaxed.equation + 10 * f.edge.from + f.edge.many;
    }

    /** All ways to part the words are looked at, each as a row of lengths. */
    private List<Integer> fragmentsOf(Found found) {
        int size = found.words.size();
        if (size == 0) {
            return List.of();
        }
        if (whole(found) != null) {
            return List.of(size);
        }
        List<Integer> best = null;
        int bestCost = 0;
        for (int parting = 0; parting < 1 << (size - 1); parting++) {
            List<Integer> lengths = new ArrayList<>();
            int last = 0;
            for (int k = 1; k <= size; k++) {
                if (k == size || (parting >> (k - 1) & 1) == 1) {
                    lengths.add(k - last);
                    last = k;
                }
            }
            int cost = costOfParts(found, lengths);
            if (cost >= 0 && (best == null || isBetter(lengths, cost, best, bestCost))) {
                best = lengths;
                bestCost = cost;
            }
        }
        return best;
    }

    private int costOfParts(Found found, List<Integer> lengths) {
        int cost = 0;
        int from = 0;
        for (int many : lengths) {
            List<Edge> span = found.span(from, many);
            boolean bare = many == 1 && has(found.words.get(from)).isEmpty();
            if (span.isEmpty() && !bare) {
                return -1;
            }
            cost += span.stream().mapToInt(e -> e.cost).min().orElse(0);
            from += many;
        }
        return cost;
    }

    private static boolean isBetter(List<Integer> a, int costA, List<Integer> b, int costB) {
        if (a.size() != b.size()) {
            return a.size() < b.size();
        }
        if (costA != costB) {
            return costA < costB;
        }
        for (int k = 0; k < a.size(); k++) {
            if (!a.get(k).equals(b.get(k))) {
                return a.get(k) > b.get(k);
            }
        }
        return false;
    }

    int fragments(int s) {
        return fragmentsOf(read(s)).size();
    }

    int fragment(int s, int fragment) {
        List<Integer> all = fragmentsOf(read(s));
        index(in(fragment, 0, all.size() - 1));
        int from = all.subList(0, fragment).stream().mapToInt(k -> k).sum();
        return 10 * from + all.get(fragment);
    }

    // ---- mends

    private int costWith(int s, List<int[]> mends) {
        List<Integer> words = new ArrayList<>(text.get(s).words);
        for (int[] m : mends) {
            words.set(m[0], m[1]);
        }
        return costOf(readWords(s, words));
    }

    /** Place and word; null if there is none. */
    private int[] mendOf(int s, Fault f) {
        Rule rule = rules.get(f.edge.rule);
        Equation e = rule.equations.get(f.relaxed.equation);
        for (int side = 2; side >= 1; side--) {
            if (e.one == side || e.other == side) {
                int wanted = f.relaxed.valuesThen[e.one == side ? e.other : e.one];
                Edge head = side == 2 ? f.edge.right : f.edge.left;
                while (head.rule != NONE) {
                    head = rules.get(head.rule).head == 2 ? head.right : head.left;
                }
                Reading has = has(text.get(s).words.get(head.from)).get(head.reading);
                int[] due = has.features.clone();
                due[e.feature] = wanted;
                int lowest = NONE;
                for (int w = endings.size() - 1; w >= 0; w--) {
                    for (Reading r : told.get(w)) {
                        if (r.lemma == has.lemma && r.category == has.category && Arrays.equals(r.features, due)) {
                            lowest = w;
                        }
                    }
                }
                int[] mend = {head.from, lowest};
                if (lowest != NONE && costWith(s, List.of(mend)) < costOf(text.get(s).found)) {
                    return mend;
                }
            }
        }
        return null;
    }

    int mend(int s, int fault) {
        List<Fault> all = faultsOf(read(s));
        index(in(fault, 0, all.size() - 1));
        int[] mend = mendOf(s, all.get(fault));
        return mend == null ? NONE : 100 * mend[0] + mend[1];
    }

    private List<int[]> firstMends(int s) {
        List<Fault> all = faultsOf(read(s));
        List<int[]> mends = new ArrayList<>();
        mends.add(all.size() > 0 ? mendOf(s, all.get(0)) : null);
        mends.add(all.size() > 1 ? mendOf(s, all.get(1)) : null);
        return mends;
    }

    private static List<int[]> ofSet(List<int[]> mends, int set) {
        List<int[]> chosen = new ArrayList<>();
        for (int k = 0; k < 2; k++) {
            if ((set >> k & 1) == 1) {
                chosen.add(mends.get(k));
            }
        }
        return chosen;
    }

    int best(int s) {
        List<int[]> mends = firstMends(s);
        int best = 0;
        int[] bestKey = null;
        for (int set = 3; set >= 0; set--) {
            List<int[]> chosen = ofSet(mends, set);
            boolean may = !chosen.contains(null) && (set != 3 || chosen.get(0)[0] != chosen.get(1)[0]);
            if (may) {
                int[] key = {costWith(s, chosen), Integer.bitCount(set), set};
                if (bestKey == null || Arrays.compare(key, bestKey) < 0) {
                    bestKey = key;
                    best = set;
                }
            }
        }
        return best;
    }

    int mendAll(int s) {
        int best = best(s);
        for (int[] m : ofSet(firstMends(s), best)) {
            text.get(s).words.set(m[0], m[1]);
            text.get(s).mustRead = true;
        }
        return cost(s);
    }

    int reads() {
        return reads;
    }

    // ---- style

    int pattern(int first, int second, int third, int of) {
        index(of == NONE || in(of, 0, patterns.size() - 1));
        argument(in(first, 0, 9) && (second == NONE || in(second, 0, 9)) && (third == NONE || in(third, 0, 9)));
        argument(third == NONE || second != NONE);
        state(patterns.size() < 12);
        patterns.add(new int[] {first, second, third, of});
        return patterns.size() - 1;
    }

    boolean off(int pattern, int word) {
        index(in(pattern, 0, patterns.size() - 1));
        index(word == NONE || in(word, 0, endings.size() - 1));
        int key = 100 * pattern + word + 1;
        if (!offs.add(key)) {
            offs.remove(key);
            return false;
        }
        return true;
    }

    private boolean stands(int pattern, List<Integer> words, int place) {
        if (!fits(pattern, words, place)) {
            return false;
        }
        for (int k = 0; k < patterns.size(); k++) {
            if (patterns.get(k)[3] == pattern && stands(k, words, place)) {
                return false;
            }
        }
        return true;
    }

    private boolean fits(int pattern, List<Integer> words, int place) {
        if (offs.contains(100 * pattern) || offs.contains(100 * pattern + words.get(place) + 1)) {
            return false;
        }
        List<TreeSet<Integer>> left = leftOf(words);
        for (int k = 0; k < 3 && patterns.get(pattern)[k] != NONE; k++) {
            if (place + k >= words.size() || !anyOf(words.get(place + k), left.get(place + k), patterns.get(pattern)[k])) {
                return false;
            }
        }
        return true;
    }

    private List<Integer> styleOf(int s) {
        List<Integer> all = new ArrayList<>();
        List<Integer> words = sentence(s).words;
        for (int place = 0; place < words.size(); place++) {
            for (int k = 0; k < patterns.size(); k++) {
                if (patterns.get(k)[3] == NONE && stands(k, words, place)) {
                    all.add(10 * k + place);
                }
            }
        }
        return all;
    }

    int styleFaults(int s) {
        return styleOf(s).size();
    }

    int styleFault(int s, int fault) {
        List<Integer> all = styleOf(s);
        index(in(fault, 0, all.size() - 1));
        return all.get(fault);
    }
}
