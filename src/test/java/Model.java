import java.util.ArrayDeque;
import java.util.ArrayList;
import java.util.Deque;
import java.util.HashMap;
import java.util.List;
import java.util.Map;
import java.util.NoSuchElementException;

/**
 * The document once more, in other ways: patterns are trees, words are accepted by derivatives, positions are
 * found by the words of positions, and error positions by trying to complete the text.
 */
final class Model {
    private record State(Tree[] slots, List<String> words, int puts) {
        State copy() {
            return new State(slots.clone(), new ArrayList<>(words), puts);
        }
    }

    private static final Map<String, Dfa> LETTERS = new HashMap<>();
    private static final Map<String, Dfa> POSITIONS = new HashMap<>();

    private State state = new State(new Tree[6], new ArrayList<>(), 0);
    private final Deque<State> undoable = new ArrayDeque<>();
    private State saved = null;
    private String buffer = "";
    private String line = "";
    private int error = -1;
    private int failed = -1;

    public int define(int slot) {
        checkSlots(slot);
        String text = buffer;
        buffer = "";
        if (!Tree.isPattern(text)) {
            error = Grammar.errorPosition(text, Grammar::isPattern, Grammar.PATTERN_ENDS);
            throw new IllegalArgumentException();
        }
        return change(() -> put(slot, Tree.parse(text)));
    }

    public int unite(int slot, int one, int other) {
        return change(() -> join(slot, one, other, '|'));
    }

    public int concatenate(int slot, int one, int other) {
        return change(() -> join(slot, one, other, '.'));
    }

    public int repeat(int slot, int one) {
        return change(() -> star(slot, one));
    }

    public int remove(int slot) {
        return change(() -> drop(slot));
    }

    public int addWord() {
        String text = buffer;
        buffer = "";
        return change(() -> add(text));
    }

    public int removeWord(int index) {
        return change(() -> cut(index));
    }

    public int patternCount() {
        int total = 0;
        for (Tree tree : state.slots) {
            total += tree == null ? 0 : 1;
        }
        return total;
    }

    public boolean hasPattern(int slot) {
        checkSlots(slot);
        return state.slots[slot] != null;
    }

    public int letterCount(int slot) {
        return in(slot).letters();
    }

    public boolean acceptsEmpty(int slot) {
        return letters(slot).accepts("");
    }

    public boolean canBegin(int slot, char letter) {
        Dfa dfa = letters(slot);
        return dfa.isAlive(dfa.step(0, letterNumber(letter)));
    }

    public boolean canEnd(int slot, char letter) {
        Dfa dfa = letters(slot);
        int number = letterNumber(letter);
        for (int from = 0; from < dfa.size(); from++) {
            if (dfa.isAccepting(dfa.step(from, number))) {
                return true;
            }
        }
        return false;
    }

    public boolean canBeAdjacent(int slot, char first, char second) {
        Dfa dfa = letters(slot);
        int before = letterNumber(first);
        int after = letterNumber(second);
        for (int from = 0; from < dfa.size(); from++) {
            if (dfa.isAlive(dfa.step(dfa.step(from, before), after))) {
                return true;
            }
        }
        return false;
    }

    public boolean matches(int slot) {
        Dfa dfa = letters(slot);
        return dfa.accepts(matched());
    }

    public boolean matchesBySpans(int slot) {
        return matches(slot);
    }

    public int longestPrefix(int slot) {
        Dfa dfa = letters(slot);
        String word = matched();
        int longest = -1;
        for (int length = 0; length <= word.length(); length++) {
            longest = dfa.accepts(word.substring(0, length)) ? length : longest;
        }
        return longest;
    }

    public boolean acceptsWord(int slot, int index) {
        Dfa dfa = letters(slot);
        return dfa.accepts(sample(index));
    }

    public int acceptedWords(int slot) {
        Dfa dfa = letters(slot);
        return (int) state.words.stream().filter(dfa::accepts).count();
    }

    public int countWords(int slot, int length) {
        Dfa dfa = letters(slot);
        if (length < 0 || length > 6) {
            throw new IllegalArgumentException();
        }
        return (int) words(length).stream().filter(dfa::accepts).count();
    }

    public int countWordsByListing(int slot, int length) {
        return countWords(slot, length);
    }

    public int shortestLength(int slot) {
        return letters(slot).firstWord(null, (one, none) -> one).length();
    }

    public int stateCount(int slot) {
        return sets(slot).size();
    }

    public int acceptingCount(int slot) {
        return (int) sets(slot).values().stream().filter(accepting -> accepting).count();
    }

    public int smallestCount(int slot) {
        return letters(slot).differentStates();
    }

    public int smallestCountByPairs(int slot) {
        return smallestCount(slot);
    }

    public boolean isFinite(int slot) {
        return !letters(slot).hasLivingCycle();
    }

    public boolean isUniversal(int slot) {
        return letters(slot).firstWord(null, (one, none) -> !one) == null;
    }

    public boolean areEquivalent(int slot, int other) {
        return difference(slot, other) == null;
    }

    public boolean areEquivalentBySmallest(int slot, int other) {
        return areEquivalent(slot, other);
    }

    public boolean isIncluded(int slot, int other) {
        Dfa one = letters(slot);
        return one.firstWord(letters(other), (first, second) -> first && !second) == null;
    }

    public int differenceLength(int slot, int other) {
        String word = difference(slot, other);
        return word == null ? -1 : word.length();
    }

    public int slotByStates(int rank) {
        List<Integer> slots = new ArrayList<>();
        for (int slot = 0; slot < 6; slot++) {
            if (state.slots[slot] != null) {
                slots.add(slot);
            }
        }
        if (rank < 0 || rank >= slots.size()) {
            throw new NoSuchElementException();
        }
        slots.sort((one, other) -> smallestCount(one) != smallestCount(other)
            ? Integer.compare(smallestCount(one), smallestCount(other))
            : letterCount(one) != letterCount(other)
                ? Integer.compare(letterCount(one), letterCount(other))
                : Integer.compare(one, other));
        return slots.get(rank);
    }

    public int wordCount() {
        return state.words.size();
    }

    public int wordLength(int index) {
        return sample(index).length();
    }

    public char wordLetter(int index, int place) {
        String word = sample(index);
        if (place < 0 || place >= word.length()) {
            throw new IndexOutOfBoundsException();
        }
        return word.charAt(place);
    }

    public int definedTotal() {
        return state.puts;
    }

    public double meanLetters() {
        double sum = 0;
        for (Tree tree : state.slots) {
            sum += tree == null ? 0 : tree.letters();
        }
        if (patternCount() == 0) {
            throw new ArithmeticException();
        }
        return sum / patternCount();
    }

    public float acceptedShare(int slot) {
        int accepted = acceptedWords(slot);
        if (state.words.isEmpty()) {
            throw new ArithmeticException();
        }
        return (float) accepted / state.words.size();
    }

    public boolean isConsistent() {
        return true;
    }

    public int formatPattern(int slot) {
        line = in(slot).text();
        return line.length();
    }

    public int formatShortest(int slot) {
        line = letters(slot).firstWord(null, (one, none) -> one);
        return line.length();
    }

    public int formatDifference(int slot, int other) {
        String word = difference(slot, other);
        line = word == null ? "" : word;
        return line.length();
    }

    public char lineChar(int index) {
        if (index < 0 || index >= line.length()) {
            throw new IndexOutOfBoundsException();
        }
        return line.charAt(index);
    }

    public int append(char character) {
        if (character < 32 || character > 126) {
            throw new IllegalArgumentException();
        }
        if (buffer.length() == 60) {
            throw new IllegalStateException();
        }
        buffer += character;
        return buffer.length();
    }

    public int clearBuffer() {
        int length = buffer.length();
        buffer = "";
        return length;
    }

    public int run() {
        String text = buffer;
        buffer = "";
        if (!Grammar.isProgram(text)) {
            error = Grammar.errorPosition(text, Grammar::isProgram, Grammar.PROGRAM_ENDS);
            throw new IllegalArgumentException();
        }
        String[] commands = text.split(";");
        return change(() -> {
            for (int index = 0; index < commands.length; index++) {
                try {
                    execute(commands[index]);
                } catch (RuntimeException fails) {
                    failed = index;
                    throw new IllegalStateException();
                }
            }
            return commands.length;
        });
    }

    public int errorPosition() {
        if (error < 0) {
            throw new NoSuchElementException();
        }
        return error;
    }

    public int failedCommand() {
        if (failed < 0) {
            throw new NoSuchElementException();
        }
        return failed;
    }

    public int undoableCount() {
        return undoable.size();
    }

    public int undo() {
        if (undoable.isEmpty()) {
            throw new IllegalStateException();
        }
        state = undoable.pop();
        return undoable.size();
    }

    public int save() {
        saved = state.copy();
        return patternCount();
    }

    public int restore() {
        if (saved == null) {
            throw new IllegalStateException();
        }
        state = saved.copy();
        undoable.clear();
        return patternCount();
    }

    private interface Change {
        int make();
    }

    private int change(Change change) {
        State before = state.copy();
        int answer;
        try {
            answer = change.make();
        } catch (RuntimeException thrown) {
            state = before;
            throw thrown;
        }
        undoable.push(before);
        if (undoable.size() > 8) {
            undoable.removeLast();
        }
        return answer;
    }

    private void execute(String command) {
        int space = command.indexOf(' ');
        String rest = command.substring(space + 1);
        int first = rest.charAt(0) - '0';
        switch (command.substring(0, space)) {
            case "set" -> put(first, Tree.parse(rest.substring(2)));
            case "or" -> join(first, rest.charAt(2) - '0', rest.charAt(4) - '0', '|');
            case "then" -> join(first, rest.charAt(2) - '0', rest.charAt(4) - '0', '.');
            case "star" -> star(first, rest.charAt(2) - '0');
            case "drop" -> drop(first);
            case "word" -> add(rest);
            case "cut" -> cut(first);
            default -> throw new IllegalStateException(command);
        }
    }

    private int put(int slot, Tree tree) {
        checkSlots(slot);
        if (tree.letters() > 7 || tree.signs() > 9) {
            throw new IllegalStateException();
        }
        state.slots[slot] = tree;
        state = new State(state.slots, state.words, state.puts + 1);
        return tree.letters();
    }

    private int join(int slot, int one, int other, char kind) {
        checkSlots(slot, one, other);
        return put(slot, new Tree(kind, List.of(in(one), in(other))));
    }

    private int star(int slot, int one) {
        checkSlots(slot, one);
        return put(slot, new Tree('*', List.of(in(one))));
    }

    private int drop(int slot) {
        checkSlots(slot);
        in(slot);
        state.slots[slot] = null;
        return patternCount();
    }

    private int add(String word) {
        if (!word.matches("[abc]{1,8}")) {
            throw new IllegalArgumentException();
        }
        if (state.words.size() == 8) {
            throw new IllegalStateException();
        }
        state.words.add(word);
        return state.words.size() - 1;
    }

    private int cut(int index) {
        sample(index);
        state.words.remove(index);
        return state.words.size();
    }

    private static void checkSlots(int... slots) {
        for (int slot : slots) {
            if (slot < 0 || slot > 5) {
                throw new IndexOutOfBoundsException();
            }
        }
    }

    private Tree in(int slot) {
        if (slot < 0 || slot > 5 || state.slots[slot] == null) {
            throw new NoSuchElementException();
        }
        return state.slots[slot];
    }

    private String sample(int index) {
        if (index < 0 || index >= state.words.size()) {
            throw new IndexOutOfBoundsException();
        }
        return state.words.get(index);
    }

    private String matched() {
        if (!buffer.matches("[abc]{0,12}")) {
            throw new IllegalArgumentException();
        }
        return buffer;
    }

    private static int letterNumber(char letter) {
        if (letter != 'a' && letter != 'b' && letter != 'c') {
            throw new IllegalArgumentException();
        }
        return letter - 'a';
    }

    private Dfa letters(int slot) {
        Tree tree = in(slot);
        return LETTERS.computeIfAbsent(tree.text(), text -> new Dfa(tree, false));
    }

    private Dfa positions(int slot) {
        Tree tree = in(slot);
        return POSITIONS.computeIfAbsent(tree.text(), text -> new Dfa(tree, true));
    }

    private String difference(int slot, int other) {
        Dfa one = letters(slot);
        return one.firstWord(letters(other), (first, second) -> first != second);
    }

    private static List<String> words(int length) {
        List<String> words = List.of("");
        for (int place = 0; place < length; place++) {
            List<String> longer = new ArrayList<>();
            for (String word : words) {
                for (String letter : new String[] {"a", "b", "c"}) {
                    longer.add(word + letter);
                }
            }
            words = longer;
        }
        return words;
    }

    /** The states of the automaton of the document, each with whether it is accepting. */
    private Map<String, Boolean> sets(int slot) {
        Dfa dfa = positions(slot);
        String letters = in(slot).text().replaceAll("[^abc]", "");
        Map<String, Boolean> states = new HashMap<>();
        states.put("initial", dfa.isAccepting(0));
        List<List<Integer>> left = new ArrayList<>();
        for (char letter : "abc".toCharArray()) {
            List<Integer> set = new ArrayList<>();
            for (int position = 0; position < letters.length(); position++) {
                if (letters.charAt(position) == letter && dfa.isAlive(dfa.step(0, position))) {
                    set.add(position);
                }
            }
            left.add(set);
        }
        while (!left.isEmpty()) {
            List<Integer> set = left.remove(left.size() - 1);
            if (states.containsKey(set.toString())) {
                continue;
            }
            states.put(set.toString(), set.stream().anyMatch(position -> isLast(dfa, position)));
            for (char letter : "abc".toCharArray()) {
                List<Integer> reached = new ArrayList<>();
                for (int position = 0; position < letters.length(); position++) {
                    int next = position;
                    if (letters.charAt(next) == letter && set.stream().anyMatch(before -> follows(dfa, before, next))) {
                        reached.add(next);
                    }
                }
                left.add(reached);
            }
        }
        return states;
    }

    private static boolean isLast(Dfa dfa, int position) {
        for (int from = 0; from < dfa.size(); from++) {
            if (dfa.isAccepting(dfa.step(from, position))) {
                return true;
            }
        }
        return false;
    }

    private static boolean follows(Dfa dfa, int before, int position) {
        for (int from = 0; from < dfa.size(); from++) {
            if (dfa.isAlive(dfa.step(dfa.step(from, before), position))) {
                return true;
            }
        }
        return false;
    }
}
