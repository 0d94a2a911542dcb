import java.util.ArrayList;
import java.util.HashMap;
import java.util.HashSet;
import java.util.List;
import java.util.Map;
import java.util.Set;
import java.util.TreeSet;

/** The automaton of the derivatives of a pattern, over its letters or over its positions. */
final class Dfa {
    interface Test {
        boolean of(boolean one, boolean other);
    }

    private final List<int[]> next = new ArrayList<>();
    private final List<Boolean> accepting = new ArrayList<>();

    Dfa(Tree tree, boolean byPositions) {
        int symbols = byPositions ? tree.letters() : 3;
        List<Term> terms = new ArrayList<>();
        Map<String, Integer> numbers = new HashMap<>();
        terms.add(Term.of(tree, byPositions, new int[1]));
        numbers.put(terms.get(0).key, 0);
        for (int state = 0; state < terms.size(); state++) {
            int[] row = new int[symbols];
            for (int symbol = 0; symbol < symbols; symbol++) {
                Term derived = terms.get(state).derive(symbol);
                Integer number = numbers.putIfAbsent(derived.key, terms.size());
                if (number == null) {
                    terms.add(derived);
                }
                row[symbol] = numbers.get(derived.key);
            }
            next.add(row);
            accepting.add(terms.get(state).nullable);
        }
    }

    int size() {
        return next.size();
    }

    int step(int state, int symbol) {
        return next.get(state)[symbol];
    }

    boolean isAccepting(int state) {
        return accepting.get(state);
    }

    boolean accepts(String word) {
        int state = 0;
        for (char letter : word.toCharArray()) {
            state = step(state, letter - 'a');
        }
        return isAccepting(state);
    }

    /** Whether some word leads from the state to an accepting one. */
    boolean isAlive(int state) {
        return reachable(state).stream().anyMatch(this::isAccepting);
    }

    boolean hasLivingCycle() {
        for (int state = 0; state < size(); state++) {
            for (int after : next.get(state)) {
                if (isAlive(state) && reachable(after).contains(state)) {
                    return true;
                }
            }
        }
        return false;
    }

    /** The first word, by length and then by the alphabet, whose acceptance here and there passes the test, or null. */
    String firstWord(Dfa other, Test test) {
        return firstWord(0, other, 0, test);
    }

    /** The number of states of which no two accept the same words. */
    int differentStates() {
        List<Integer> different = new ArrayList<>();
        for (int state = 0; state < size(); state++) {
            int one = state;
            if (different.stream().allMatch(two -> firstWord(one, this, two, (here, there) -> here != there) != null)) {
                different.add(state);
            }
        }
        return different.size();
    }

    private String firstWord(int from, Dfa other, int otherFrom, Test test) {
        Map<String, Boolean> seen = new HashMap<>();
        List<Object[]> level = new ArrayList<>();
        level.add(new Object[] {from, otherFrom, ""});
        while (!level.isEmpty()) {
            List<Object[]> after = new ArrayList<>();
            for (Object[] entry : level) {
                int here = (Integer) entry[0];
                int there = (Integer) entry[1];
                if (seen.put(here + "," + there, true) != null) {
                    continue;
                }
                if (test.of(isAccepting(here), other != null && other.isAccepting(there))) {
                    return (String) entry[2];
                }
                for (int letter = 0; letter < next.get(here).length; letter++) {
                    int otherNext = other == null ? 0 : other.step(there, letter);
                    after.add(new Object[] {step(here, letter), otherNext, entry[2] + String.valueOf((char) ('a' + letter))});
                }
            }
            level = after;
        }
        return null;
    }

    private Set<Integer> reachable(int state) {
        Set<Integer> reached = new HashSet<>();
        List<Integer> left = new ArrayList<>(List.of(state));
        while (!left.isEmpty()) {
            int one = left.remove(left.size() - 1);
            if (reached.add(one)) {
                for (int after : next.get(one)) {
                    left.add(after);
                }
            }
        }
        return reached;
    }

    /** An expression that a derivative can be taken of; equal keys stand for equal ones. */
    private static final class Term {
        private static final Term NOTHING = new Term('0', -1, List.of(), false);
        private static final Term EMPTY = new Term('1', -1, List.of(), true);

        private final char kind;
        private final int symbol;
        private final List<Term> parts;
        private final boolean nullable;
        private final String key;

        private Term(char kind, int symbol, List<Term> parts, boolean nullable) {
            this.kind = kind;
            this.symbol = symbol;
            this.parts = parts;
            this.nullable = nullable;
            StringBuilder text = new StringBuilder().append(kind).append(symbol < 0 ? "" : symbol);
            for (Term part : parts) {
                text.append('(').append(part.key).append(')');
            }
            this.key = text.toString();
        }

        static Term of(Tree tree, boolean byPositions, int[] positions) {
            if (tree.parts().isEmpty()) {
                int position = positions[0]++;
                return new Term('s', byPositions ? position : tree.kind() - 'a', List.of(), false);
            }
            List<Term> parts = new ArrayList<>();
            for (Tree part : tree.parts()) {
                parts.add(of(part, byPositions, positions));
            }
            switch (tree.kind()) {
                case '|':
                    return either(parts);
                case '.':
                    Term all = EMPTY;
                    for (int index = parts.size() - 1; index >= 0; index--) {
                        all = both(parts.get(index), all);
                    }
                    return all;
                case '?':
                    return either(List.of(parts.get(0), EMPTY));
                case '+':
                    return both(parts.get(0), many(parts.get(0)));
                default:
                    return many(parts.get(0));
            }
        }

        Term derive(int by) {
            switch (kind) {
                case 's':
                    return symbol == by ? EMPTY : NOTHING;
                case '|':
                    List<Term> derived = new ArrayList<>();
                    for (Term part : parts) {
                        derived.add(part.derive(by));
                    }
                    return either(derived);
                case '.':
                    Term first = both(parts.get(0).derive(by), parts.get(1));
                    return parts.get(0).nullable ? either(List.of(first, parts.get(1).derive(by))) : first;
                case '*':
                    return both(parts.get(0).derive(by), this);
                default:
                    return NOTHING;
            }
        }

        private static Term many(Term one) {
            return one.kind == '*' || one == EMPTY ? one : new Term('*', -1, List.of(one), true);
        }

        private static Term both(Term one, Term other) {
            if (one == NOTHING || other == NOTHING) {
                return NOTHING;
            }
            if (one == EMPTY) {
                return other;
            }
            if (other == EMPTY) {
                return one;
            }
            if (one.kind == '.') {
                return both(one.parts.get(0), both(one.parts.get(1), other));
            }
            return new Term('.', -1, List.of(one, other), one.nullable && other.nullable);
        }

        private static Term either(List<Term> terms) {
            Map<String, Term> different = new HashMap<>();
            for (Term term : terms) {
                for (Term part : term.kind == '|' ? term.parts : List.of(term)) {
                    if (part != NOTHING) {
                        different.put(part.key, part);
                    }
                }
            }
            if (different.isEmpty()) {
                return NOTHING;
            }
            List<Term> sorted = new ArrayList<>();
            boolean nullable = false;
            for (String key : new TreeSet<>(different.keySet())) {
                sorted.add(different.get(key));
                nullable |= different.get(key).nullable;
            }
            return sorted.size() == 1 ? sorted.get(0) : new Term('|', -1, sorted, nullable);
        }
    }
}
