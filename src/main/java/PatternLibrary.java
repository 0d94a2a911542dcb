import java.util.Arrays;
import java.util.NoSuchElementException;

/** A library of patterns for words: each pattern accepts words of the letters a, b and c. */
public final class PatternLibrary {
    private static final int SLOTS = 6;
    private static final int ALPHABET = 3;
    private static final int MOST_LETTERS = 7;
    private static final int MOST_SIGNS = 9;
    private static final int MOST_SETS = 128;
    // The initial state and every set of 7 positions.
    private static final int MOST_STATES = 129;
    private static final int MOST_SAMPLES = 8;
    private static final int MOST_SAMPLE_LETTERS = 8;
    private static final int MOST_MATCHED_LETTERS = 12;
    private static final int MOST_COUNTED_LETTERS = 6;
    private static final int MOST_CHARACTERS = 60;
    private static final int MOST_UNDOABLE = 8;

    private static final char NOTHING = (char) 0;
    private static final char JOINT = '.';
    private static final char BAR = '|';
    private static final char STAR_SIGN = '*';

    private static final int SET = 0;
    private static final int OR = 1;
    private static final int THEN = 2;
    private static final int STAR = 3;
    private static final int DROP = 4;
    private static final int WORD = 5;
    private static final int CUT = 6;
    private static final int KEYWORDS = 7;

    // What a change answers if it cannot be made; run needs to know it without an exception.
    private static final int NO_SLOT = -1;
    private static final int FREE_SLOT = -2;
    private static final int TOO_LARGE = -3;
    private static final int MALFORMED = -4;
    private static final int NO_ROOM = -5;
    private static final int NO_SAMPLE = -6;

    private final Shelf shelf = new Shelf();
    private final Shelf savedShelf = new Shelf();
    private final History history = new History();
    private final Text text = new Text();
    private final Notation notation = new Notation();
    private final StringBuilder line = new StringBuilder();
    private final Positions positions = new Positions();
    private final Automaton automaton = new Automaton();
    private final Automaton otherAutomaton = new Automaton();
    private final Smallest smallest = new Smallest();
    private final Smallest otherSmallest = new Smallest();
    private final Pairs pairs = new Pairs();
    private final Spans spans = new Spans();
    // For each slot, the number of states of the smallest automaton, while slots are ranked.
    private final int[] sizes = new int[SLOTS];
    private boolean hasSaved = false;
    private int storedError = -1;
    private int storedFailure = -1;

    public PatternLibrary() {
    }

    public int define(int slot) throws IndexOutOfBoundsException, IllegalArgumentException, IllegalStateException {
        if (!isSlot(slot)) {
            throw new IndexOutOfBoundsException("no such slot");
        }
        if (!text.readWholePattern()) {
            storedError = text.position();
            text.empty();
            throw new IllegalArgumentException("the buffer is not a pattern");
        }
        history.prepare(shelf);
        int result = shelf.put(slot, notation.read(text));
        text.empty();
        return finishChange(result);
    }

    public int unite(int slot, int one, int other) throws IndexOutOfBoundsException, NoSuchElementException, IllegalStateException {
        history.prepare(shelf);
        return finishChange(shelf.putJoined(slot, one, other, BAR));
    }

    public int concatenate(int slot, int one, int other) throws IndexOutOfBoundsException, NoSuchElementException, IllegalStateException {
        history.prepare(shelf);
        return finishChange(shelf.putJoined(slot, one, other, JOINT));
    }

    public int repeat(int slot, int one) throws IndexOutOfBoundsException, NoSuchElementException, IllegalStateException {
        history.prepare(shelf);
        return finishChange(shelf.putStarred(slot, one));
    }

    public int remove(int slot) throws IndexOutOfBoundsException, NoSuchElementException {
        history.prepare(shelf);
        return finishChange(shelf.free(slot));
    }

    public int addWord() throws IllegalArgumentException, IllegalStateException {
        history.prepare(shelf);
        int result = shelf.addSample(text.wordBetween(0, text.size(), MOST_SAMPLE_LETTERS));
        text.empty();
        return finishChange(result);
    }

    public int removeWord(int index) throws IndexOutOfBoundsException {
        history.prepare(shelf);
        return finishChange(shelf.removeSample(index));
    }

    public int patternCount() {
        return shelf.patternTotal();
    }

    public boolean hasPattern(int slot) throws IndexOutOfBoundsException {
        if (!isSlot(slot)) {
            throw new IndexOutOfBoundsException("no such slot");
        }
        return shelf.pattern(slot) != null;
    }

    public int letterCount(int slot) throws NoSuchElementException {
        return patternIn(slot).letters();
    }

    public boolean acceptsEmpty(int slot) throws NoSuchElementException {
        positions.number(patternIn(slot));
        return positions.acceptNothing();
    }

    public boolean canBegin(int slot, char letter) throws NoSuchElementException, IllegalArgumentException {
        positions.number(patternIn(slot));
        return (positions.first() & positions.having(letterNumber(letter))) != 0;
    }

    public boolean canEnd(int slot, char letter) throws NoSuchElementException, IllegalArgumentException {
        positions.number(patternIn(slot));
        return (positions.last() & positions.having(letterNumber(letter))) != 0;
    }

    public boolean canBeAdjacent(int slot, char first, char second) throws NoSuchElementException, IllegalArgumentException {
        positions.number(patternIn(slot));
        int before = positions.having(letterNumber(first));
        int after = positions.having(letterNumber(second));
        return (positions.followersOf(before) & after) != 0;
    }

    public boolean matches(int slot) throws NoSuchElementException, IllegalArgumentException {
        Pattern pattern = patternIn(slot);
        Word word = matchedWord();
        automaton.build(pattern);
        return automaton.accepts(word);
    }

    public boolean matchesBySpans(int slot) throws NoSuchElementException, IllegalArgumentException {
        Pattern pattern = patternIn(slot);
        return spans.accept(pattern, matchedWord());
    }

    public int longestPrefix(int slot) throws NoSuchElementException, IllegalArgumentException {
        Pattern pattern = patternIn(slot);
        Word word = matchedWord();
        automaton.build(pattern);
        return automaton.longestAcceptedPrefix(word);
    }

    public boolean acceptsWord(int slot, int index) throws NoSuchElementException, IndexOutOfBoundsException {
        Pattern pattern = patternIn(slot);
        Word word = sampleAt(index);
        automaton.build(pattern);
        return automaton.accepts(word);
    }

    public int acceptedWords(int slot) throws NoSuchElementException {
        automaton.build(patternIn(slot));
        return acceptedSamples();
    }

    public int countWords(int slot, int length) throws NoSuchElementException, IllegalArgumentException {
        Pattern pattern = patternIn(slot);
        checkCountedLength(length);
        automaton.build(pattern);
        return automaton.countByStates(length);
    }

    public int countWordsByListing(int slot, int length) throws NoSuchElementException, IllegalArgumentException {
        Pattern pattern = patternIn(slot);
        checkCountedLength(length);
        automaton.build(pattern);
        return automaton.countByListing(length);
    }

    public int shortestLength(int slot) throws NoSuchElementException {
        automaton.build(patternIn(slot));
        return automaton.shortestAccepted();
    }

    public int stateCount(int slot) throws NoSuchElementException {
        automaton.build(patternIn(slot));
        return automaton.size();
    }

    public int acceptingCount(int slot) throws NoSuchElementException {
        automaton.build(patternIn(slot));
        return automaton.acceptingSize();
    }

    public int smallestCount(int slot) throws NoSuchElementException {
        return smallestSize(patternIn(slot));
    }

    public int smallestCountByPairs(int slot) throws NoSuchElementException {
        automaton.build(patternIn(slot));
        return pairs.countToldApart(automaton);
    }

    public boolean isFinite(int slot) throws NoSuchElementException {
        positions.number(patternIn(slot));
        return !positions.haveCycle();
    }

    public boolean isUniversal(int slot) throws NoSuchElementException {
        automaton.build(patternIn(slot));
        return automaton.acceptingSize() == automaton.size();
    }

    public boolean areEquivalent(int slot, int other) throws NoSuchElementException {
        return sameByPairs(patternIn(slot), patternIn(other));
    }

    public boolean areEquivalentBySmallest(int slot, int other) throws NoSuchElementException {
        return sameBySmallest(patternIn(slot), patternIn(other));
    }

    public boolean isIncluded(int slot, int other) throws NoSuchElementException {
        buildBoth(patternIn(slot), patternIn(other));
        return !pairs.findOnlyFirst(automaton, otherAutomaton);
    }

    public int differenceLength(int slot, int other) throws NoSuchElementException {
        buildBoth(patternIn(slot), patternIn(other));
        return pairs.findApart(automaton, otherAutomaton) ? pairs.foundLength() : -1;
    }

    public int slotByStates(int rank) throws NoSuchElementException {
        for (int slot = 0; slot < SLOTS; slot++) {
            Pattern pattern = shelf.pattern(slot);
            sizes[slot] = pattern == null ? 0 : smallestSize(pattern);
        }
        for (int slot = 0; slot < SLOTS; slot++) {
            if (shelf.pattern(slot) != null && rankOf(slot) == rank) {
                return slot;
            }
        }
        throw new NoSuchElementException("no such rank");
    }

    public int wordCount() {
        return shelf.sampleTotal();
    }

    public int wordLength(int index) throws IndexOutOfBoundsException {
        return sampleAt(index).size();
    }

    public char wordLetter(int index, int place) throws IndexOutOfBoundsException {
        Word word = sampleAt(index);
        if (place < 0 || place >= word.size()) {
            throw new IndexOutOfBoundsException("no such place");
        }
        return (char) ('a' + word.letter(place));
    }

    public int definedTotal() {
        return shelf.putTotal();
    }

    public double meanLetters() throws ArithmeticException {
        int total = shelf.patternTotal();
        if (total == 0) {
            throw new ArithmeticException("all slots are free");
        }
        return (double) shelf.letterSum() / total;
    }

    public float acceptedShare(int slot) throws NoSuchElementException, ArithmeticException {
        Pattern pattern = patternIn(slot);
        int total = shelf.sampleTotal();
        if (total == 0) {
            throw new ArithmeticException("there are no sample words");
        }
        automaton.build(pattern);
        return (float) acceptedSamples() / total;
    }

    public boolean isConsistent() {
        Pattern before = null;
        for (int slot = 0; slot < SLOTS; slot++) {
            Pattern pattern = shelf.pattern(slot);
            if (pattern == null) {
                continue;
            }
            if (!agreesAlone(pattern) || !agreesWithNext(before, pattern)) {
                return false;
            }
            before = pattern;
        }
        return true;
    }

    public int formatPattern(int slot) throws NoSuchElementException {
        notation.write(patternIn(slot), line);
        return line.length();
    }

    public int formatShortest(int slot) throws NoSuchElementException {
        automaton.build(patternIn(slot));
        automaton.writeShortest(line);
        return line.length();
    }

    public int formatDifference(int slot, int other) throws NoSuchElementException {
        buildBoth(patternIn(slot), patternIn(other));
        pairs.findApart(automaton, otherAutomaton);
        pairs.writeFound(line);
        return line.length();
    }

    public char lineChar(int index) throws IndexOutOfBoundsException {
        if (index < 0 || index >= line.length()) {
            throw new IndexOutOfBoundsException("no such character");
        }
        return line.charAt(index);
    }

    public int append(char character) throws IllegalArgumentException, IllegalStateException {
        if (character < ' ' || character > '~') {
            throw new IllegalArgumentException("the character is out of range");
        }
        if (text.isFull()) {
            throw new IllegalStateException("the buffer is full");
        }
        text.add(character);
        return text.size();
    }

    public int clearBuffer() {
        int size = text.size();
        text.empty();
        return size;
    }

    public int run() throws IllegalArgumentException, IllegalStateException {
        int commands = text.readProgram();
        if (commands == MALFORMED) {
            storedError = text.position();
            text.empty();
            throw new IllegalArgumentException("the program is malformed");
        }
        history.prepare(shelf);
        int done = executeCommands(commands);
        text.empty();
        if (done < commands) {
            storedFailure = done;
            history.takePrepared(shelf);
            throw new IllegalStateException("a command failed");
        }
        history.keepPrepared();
        return commands;
    }

    public int errorPosition() throws NoSuchElementException {
        if (storedError < 0) {
            throw new NoSuchElementException("nothing was malformed");
        }
        return storedError;
    }

    public int failedCommand() throws NoSuchElementException {
        if (storedFailure < 0) {
            throw new NoSuchElementException("no command failed");
        }
        return storedFailure;
    }

    public int undoableCount() {
        return history.size();
    }

    public int undo() throws IllegalStateException {
        if (history.size() == 0) {
            throw new IllegalStateException("no change can be undone");
        }
        history.takeLatest(shelf);
        return history.size();
    }

    public int save() {
        savedShelf.copyFrom(shelf);
        hasSaved = true;
        return shelf.patternTotal();
    }

    public int restore() throws IllegalStateException {
        if (!hasSaved) {
            throw new IllegalStateException("there is no saved copy");
        }
        shelf.copyFrom(savedShelf);
        history.forget();
        return shelf.patternTotal();
    }

    private static boolean isSlot(int slot) {
        return slot >= 0 && slot < SLOTS;
    }

    private static boolean isLetter(char character) {
        return character >= 'a' && character <= 'c';
    }

    private static boolean isSign(char character) {
        return character == STAR_SIGN || character == '+' || character == '?';
    }

    private static int letterNumber(char letter) {
        if (!isLetter(letter)) {
            throw new IllegalArgumentException("no such letter");
        }
        return letter - 'a';
    }

    private static void checkCountedLength(int length) {
        if (length < 0 || length > MOST_COUNTED_LETTERS) {
            throw new IllegalArgumentException("the length is out of range");
        }
    }

    private Pattern patternIn(int slot) {
        Pattern pattern = shelf.pattern(slot);
        if (pattern == null) {
            throw new NoSuchElementException("no such slot, or it is free");
        }
        return pattern;
    }

    private Word sampleAt(int index) {
        Word word = shelf.sample(index);
        if (word == null) {
            throw new IndexOutOfBoundsException("no such sample word");
        }
        return word;
    }

    private Word matchedWord() {
        Word word = text.wordBetween(0, text.size(), MOST_MATCHED_LETTERS);
        if (word == null) {
            throw new IllegalArgumentException("the buffer is not a word of 0 to 12 letters");
        }
        return word;
    }

    private int finishChange(int result) {
        switch (result) {
            case NO_SLOT:
                throw new IndexOutOfBoundsException("no such slot");
            case FREE_SLOT:
                throw new NoSuchElementException("the slot is free");
            case TOO_LARGE:
                throw new IllegalStateException("the pattern is too large");
            case MALFORMED:
                throw new IllegalArgumentException("the buffer is not a word of 1 to 8 letters");
            case NO_ROOM:
                throw new IllegalStateException("there are 8 sample words");
            case NO_SAMPLE:
                throw new IndexOutOfBoundsException("no such sample word");
            default:
                history.keepPrepared();
                return result;
        }
    }

    /** Executes commands of the checked program in the buffer, and answers how many went well before one failed. */
    private int executeCommands(int commands) {
        text.rewind();
        for (int done = 0; done < commands; done++) {
            if (!text.readCommand() || executeCommand() < 0) {
                return done;
            }
            text.readSign(';');
        }
        return commands;
    }

    private int executeCommand() {
        switch (text.keyword()) {
            case SET:
                return shelf.put(text.digit(0), notation.read(text));
            case OR:
                return shelf.putJoined(text.digit(0), text.digit(1), text.digit(2), BAR);
            case THEN:
                return shelf.putJoined(text.digit(0), text.digit(1), text.digit(2), JOINT);
            case STAR:
                return shelf.putStarred(text.digit(0), text.digit(1));
            case DROP:
                return shelf.free(text.digit(0));
            case WORD:
                return shelf.addSample(text.wordBetween(text.start(), text.end(), MOST_SAMPLE_LETTERS));
            case CUT:
                return shelf.removeSample(text.digit(0));
            default:
                return MALFORMED;
        }
    }

    private int acceptedSamples() {
        int accepted = 0;
        for (int index = 0; index < shelf.sampleTotal(); index++) {
            if (automaton.accepts(shelf.sample(index))) {
                accepted++;
            }
        }
        return accepted;
    }

    private int smallestSize(Pattern pattern) {
        automaton.build(pattern);
        smallest.build(automaton);
        return smallest.size();
    }

    private void buildBoth(Pattern one, Pattern other) {
        automaton.build(one);
        otherAutomaton.build(other);
    }

    private boolean sameByPairs(Pattern one, Pattern other) {
        buildBoth(one, other);
        return !pairs.findApart(automaton, otherAutomaton);
    }

    private boolean sameBySmallest(Pattern one, Pattern other) {
        buildBoth(one, other);
        smallest.build(automaton);
        otherSmallest.build(otherAutomaton);
        return smallest.equalsOther(otherSmallest);
    }

    private int rankOf(int slot) {
        int rank = 0;
        for (int other = 0; other < SLOTS; other++) {
            if (comesBefore(other, slot)) {
                rank++;
            }
        }
        return rank;
    }

    private boolean comesBefore(int one, int other) {
        Pattern first = shelf.pattern(one);
        Pattern second = shelf.pattern(other);
        if (first == null || second == null || !isSlot(one) || !isSlot(other)) {
            return false;
        }
        if (sizes[one] != sizes[other]) {
            return sizes[one] < sizes[other];
        }
        if (first.letters() != second.letters()) {
            return first.letters() < second.letters();
        }
        return one < other;
    }

    private boolean agreesAlone(Pattern pattern) {
        automaton.build(pattern);
        smallest.build(automaton);
        if (smallest.size() != pairs.countToldApart(automaton)) {
            return false;
        }
        if (automaton.countByStates(3) != automaton.countByListing(3)) {
            return false;
        }
        for (int index = 0; index < shelf.sampleTotal(); index++) {
            Word word = shelf.sample(index);
            if (automaton.accepts(word) != spans.accept(pattern, word)) {
                return false;
            }
        }
        return true;
    }

    private boolean agreesWithNext(Pattern pattern, Pattern next) {
        if (pattern == null || next == null) {
            return true;
        }
        return sameByPairs(pattern, next) == sameBySmallest(pattern, next);
    }

    /** A word of letters with the numbers 0 to 2; it never changes. */
    private static final class Word {
        private final int[] letters;

        Word(int[] letters) {
            this.letters = letters;
        }

        int size() {
            return letters.length;
        }

        int letter(int place) {
            return place < 0 || place >= letters.length ? -1 : letters[place];
        }
    }

    /**
     * A pattern in postfix order, which needs no parentheses: a sign stands behind its part, a bar or a joint
     * behind its two parts. It never changes, so copies of the library can share it.
     */
    private static final class Pattern {
        private final char[] codes;
        private final int letters;
        private final int signs;

        Pattern(char[] codes) {
            this.codes = codes;
            int letterTotal = 0;
            int signTotal = 0;
            for (char code : codes) {
                letterTotal += isLetter(code) ? 1 : 0;
                signTotal += isSign(code) ? 1 : 0;
            }
            this.letters = letterTotal;
            this.signs = signTotal;
        }

        static Pattern joined(Pattern one, Pattern other, char code) {
            int size = one.codes.length + other.codes.length;
            char[] codes = new char[size + 1];
            System.arraycopy(one.codes, 0, codes, 0, one.codes.length);
            System.arraycopy(other.codes, 0, codes, one.codes.length, other.codes.length);
            codes[size] = code;
            return new Pattern(codes);
        }

        static Pattern starred(Pattern one) {
            int size = one.codes.length;
            char[] codes = new char[size + 1];
            System.arraycopy(one.codes, 0, codes, 0, size);
            codes[size] = STAR_SIGN;
            return new Pattern(codes);
        }

        int size() {
            return codes.length;
        }

        char code(int index) {
            return index < 0 || index >= codes.length ? NOTHING : codes[index];
        }

        int letters() {
            return letters;
        }

        boolean isTooLarge() {
            return letters > MOST_LETTERS || signs > MOST_SIGNS;
        }
    }

    /** Everything that changes can change. What a change cannot do, it answers by a negative number. */
    private static final class Shelf {
        private final Pattern[] patterns = new Pattern[SLOTS];
        private final Word[] samples = new Word[MOST_SAMPLES];
        private int sampleTotal = 0;
        private int putTotal = 0;

        void copyFrom(Shelf other) {
            for (int slot = 0; slot < SLOTS; slot++) {
                patterns[slot] = other.patterns[slot];
            }
            for (int index = 0; index < MOST_SAMPLES; index++) {
                samples[index] = other.samples[index];
            }
            sampleTotal = other.sampleTotal;
            putTotal = other.putTotal;
        }

        int put(int slot, Pattern pattern) {
            if (!isSlot(slot)) {
                return NO_SLOT;
            }
            if (pattern.isTooLarge()) {
                return TOO_LARGE;
            }
            patterns[slot] = pattern;
            putTotal++;
            return pattern.letters();
        }

        int putJoined(int slot, int one, int other, char code) {
            if (!isSlot(slot) || !isSlot(one) || !isSlot(other)) {
                return NO_SLOT;
            }
            Pattern first = patterns[one];
            Pattern second = patterns[other];
            if (first == null || second == null) {
                return FREE_SLOT;
            }
            return put(slot, Pattern.joined(first, second, code));
        }

        int putStarred(int slot, int one) {
            if (!isSlot(slot) || !isSlot(one)) {
                return NO_SLOT;
            }
            Pattern pattern = patterns[one];
            return pattern == null ? FREE_SLOT : put(slot, Pattern.starred(pattern));
        }

        int free(int slot) {
            if (!isSlot(slot)) {
                return NO_SLOT;
            }
            if (patterns[slot] == null) {
                return FREE_SLOT;
            }
            patterns[slot] = null;
            return patternTotal();
        }

        int addSample(Word word) {
            if (word == null || word.size() == 0) {
                return MALFORMED;
            }
            if (sampleTotal < 0 || sampleTotal >= MOST_SAMPLES) {
                return NO_ROOM;
            }
            samples[sampleTotal] = word;
            sampleTotal++;
            return sampleTotal - 1;
        }

        int removeSample(int index) {
            if (sample(index) == null) {
                return NO_SAMPLE;
            }
            for (int later = index + 1; later < MOST_SAMPLES; later++) {
                samples[later - 1] = samples[later];
            }
            samples[MOST_SAMPLES - 1] = null;
            sampleTotal--;
            return sampleTotal;
        }

        /** Answers null if there is no such slot, or it is free. */
        Pattern pattern(int slot) {
            return isSlot(slot) ? patterns[slot] : null;
        }

        /** Answers null if there is no such sample word. */
        Word sample(int index) {
            return index < 0 || index >= sampleTotal || index >= MOST_SAMPLES ? null : samples[index];
        }

        int patternTotal() {
            int total = 0;
            for (Pattern pattern : patterns) {
                total += pattern == null ? 0 : 1;
            }
            return total;
        }

        int letterSum() {
            int sum = 0;
            for (Pattern pattern : patterns) {
                sum += pattern == null ? 0 : pattern.letters();
            }
            return sum;
        }

        int sampleTotal() {
            return sampleTotal;
        }

        int putTotal() {
            return putTotal;
        }
    }

    /** The states before the latest changes, in a ring with room for one more: the state before a change that may fail. */
    private static final class History {
        private static final int RING = MOST_UNDOABLE + 1;

        private final Shelf[] ring = new Shelf[RING];
        private int prepared = 0;
        private int size = 0;

        History() {
            for (int index = 0; index < RING; index++) {
                ring[index] = new Shelf();
            }
        }

        int size() {
            return size;
        }

        void prepare(Shelf now) {
            Shelf kept = preparedShelf();
            if (kept != null) {
                kept.copyFrom(now);
            }
        }

        void keepPrepared() {
            prepared = (prepared + 1) % RING;
            size = Math.min(size + 1, MOST_UNDOABLE);
        }

        void takePrepared(Shelf now) {
            Shelf kept = preparedShelf();
            if (kept != null) {
                now.copyFrom(kept);
            }
        }

        void takeLatest(Shelf now) {
            prepared = (prepared + RING - 1) % RING;
            size = Math.max(size - 1, 0);
            takePrepared(now);
        }

        void forget() {
            size = 0;
        }

        private Shelf preparedShelf() {
            return prepared < 0 || prepared >= RING ? null : ring[prepared];
        }
    }

    /** The buffer, with a place up to which it has been read; where reading fails, that place is the error position. */
    private static final class Text {
        private final char[] characters = new char[MOST_CHARACTERS];
        private final int[] digits = new int[3];
        private int size = 0;
        private int at = 0;
        private int keyword = -1;
        private int start = 0;
        private int end = 0;

        boolean isFull() {
            return size >= MOST_CHARACTERS;
        }

        void add(char character) {
            if (size >= 0 && size < MOST_CHARACTERS) {
                characters[size] = character;
                size++;
            }
        }

        void empty() {
            size = 0;
        }

        void rewind() {
            at = 0;
        }

        int size() {
            return size;
        }

        int position() {
            return at;
        }

        /** The number of the keyword of the command that was read last. */
        int keyword() {
            return keyword;
        }

        /** The digits of the command that was read last, from left to right. */
        int digit(int index) {
            return index < 0 || index >= digits.length ? -1 : digits[index];
        }

        /** Where the pattern or the word that was read last starts. */
        int start() {
            return start;
        }

        int end() {
            return end;
        }

        /** Answers NOTHING behind the end, so that no reading goes on there. */
        char character(int index) {
            return index < 0 || index >= size || index >= MOST_CHARACTERS ? NOTHING : characters[index];
        }

        /** Answers null if there are more letters than that, or other characters. */
        Word wordBetween(int from, int to, int most) {
            int length = to - from;
            if (length < 0 || length > most) {
                return null;
            }
            int[] letters = new int[length];
            for (int index = 0; index < length; index++) {
                char character = character(from + index);
                if (!isLetter(character)) {
                    return null;
                }
                letters[index] = character - 'a';
            }
            return new Word(letters);
        }

        boolean readWholePattern() {
            rewind();
            return readPattern() && at == size;
        }

        /** Answers the number of commands, or MALFORMED. */
        int readProgram() {
            rewind();
            for (int commands = 1; commands <= MOST_CHARACTERS; commands++) {
                if (!readCommand()) {
                    return MALFORMED;
                }
                if (at == size) {
                    return commands;
                }
                if (!readSign(';')) {
                    return MALFORMED;
                }
            }
            return MALFORMED;
        }

        boolean readCommand() {
            keyword = readKeyword();
            switch (keyword) {
                case SET:
                    return readDigit(0) && readSign('=') && readPattern();
                case OR:
                case THEN:
                    return readDigit(0) && readSign('=') && readDigit(1) && readSign(',') && readDigit(2);
                case STAR:
                    return readDigit(0) && readSign('=') && readDigit(1);
                case WORD:
                    return readLetters();
                case DROP:
                case CUT:
                    return readDigit(0);
                default:
                    return false;
            }
        }

        boolean readSign(char sign) {
            if (character(at) != sign) {
                return false;
            }
            at++;
            return true;
        }

        private boolean readDigit(int index) {
            char character = character(at);
            if (character < '0' || character > '9' || index < 0 || index >= digits.length) {
                return false;
            }
            digits[index] = character - '0';
            at++;
            return true;
        }

        private boolean readLetters() {
            start = at;
            while (at < size && isLetter(character(at))) {
                at++;
            }
            end = at;
            return end > start;
        }

        /** Reads on as far as some keyword goes; answers -1 if that is not a whole one. */
        private int readKeyword() {
            int longest = 0;
            for (int number = 0; number < KEYWORDS; number++) {
                String spelled = spelling(number);
                int shared = sharedLength(spelled);
                if (shared == spelled.length()) {
                    at += shared;
                    return number;
                }
                longest = Math.max(longest, shared);
            }
            at += longest;
            return -1;
        }

        private int sharedLength(String spelled) {
            int shared = 0;
            while (shared < spelled.length() && character(at + shared) == spelled.charAt(shared)) {
                shared++;
            }
            return shared;
        }

        private static String spelling(int number) {
            switch (number) {
                case SET:
                    return "set ";
                case OR:
                    return "or ";
                case THEN:
                    return "then ";
                case STAR:
                    return "star ";
                case DROP:
                    return "drop ";
                case WORD:
                    return "word ";
                default:
                    return "cut ";
            }
        }

        /** Reads on as far as a pattern can go, and answers whether that is a whole one. */
        private boolean readPattern() {
            start = at;
            int open = 0;
            // A pattern begins as the one behind an opening parenthesis does.
            char before = '(';
            while (at < size && canFollow(before, character(at), open)) {
                before = character(at);
                if (before == '(') {
                    open++;
                } else if (before == ')') {
                    open--;
                }
                at++;
            }
            end = at;
            return open == 0 && endsFactor(before);
        }

        private static boolean canFollow(char before, char character, int open) {
            if (isLetter(character) || character == '(') {
                return true;
            }
            if (isSign(character)) {
                return isLetter(before) || before == ')';
            }
            return endsFactor(before) && (character == BAR || character == ')' && open > 0);
        }

        static boolean endsFactor(char character) {
            return isLetter(character) || isSign(character) || character == ')';
        }
    }

    /** Turns texts into patterns and patterns into texts, with a stack of characters instead of recursion. */
    private static final class Notation {
        // Where a part stands that is still to be written: what needs parentheses depends on it.
        private static final char ALONE = '0';
        private static final char AS_FACTOR = '1';
        private static final char AS_ATOM = '2';

        private final char[] stack = new char[2 * MOST_CHARACTERS];
        private final char[] codes = new char[2 * MOST_CHARACTERS];
        private int depth = 0;
        private int size = 0;

        /** Makes the pattern that the text has read last. */
        Pattern read(Text text) {
            depth = 0;
            size = 0;
            char before = NOTHING;
            for (int index = text.start(); index < text.end(); index++) {
                char character = text.character(index);
                if (Text.endsFactor(before) && (isLetter(character) || character == '(')) {
                    flush(level(JOINT));
                    push(JOINT);
                }
                takeCharacter(character);
                before = character;
            }
            flush(level(BAR));
            int length = Math.max(0, Math.min(size, codes.length));
            char[] made = new char[length];
            System.arraycopy(codes, 0, made, 0, length);
            return new Pattern(made);
        }

        /** Puts the text of a pattern into the line, made from its end because there the pattern tells its parts. */
        void write(Pattern pattern, StringBuilder line) {
            line.setLength(0);
            depth = 0;
            push(ALONE);
            for (int index = pattern.size() - 1; index >= 0; index--) {
                writeSigns(line);
                writePart(pattern.code(index), pop(), line);
            }
            writeSigns(line);
            line.reverse();
        }

        private void takeCharacter(char character) {
            if (isLetter(character) || isSign(character)) {
                emit(character);
            } else if (character == '(') {
                push(character);
            } else if (character == ')') {
                flush(level(BAR));
                pop();
            } else if (character == BAR) {
                flush(level(BAR));
                push(BAR);
            }
        }

        private void flush(int lowest) {
            for (int left = depth; left > 0 && level(top()) >= lowest; left--) {
                emit(pop());
            }
        }

        private static int level(char operator) {
            return operator == JOINT ? 2 : operator == BAR ? 1 : 0;
        }

        private void writeSigns(StringBuilder line) {
            for (int left = depth; left > 0 && (top() == '(' || top() == BAR); left--) {
                line.append(pop());
            }
        }

        private void writePart(char code, char place, StringBuilder line) {
            if (place == AS_ATOM && !isLetter(code) || place == AS_FACTOR && code == BAR) {
                line.append(')');
                push('(');
            }
            if (code == BAR) {
                push(ALONE);
                push(BAR);
                push(ALONE);
            } else if (code == JOINT) {
                push(AS_FACTOR);
                push(AS_FACTOR);
            } else {
                line.append(code);
                if (isSign(code)) {
                    push(AS_ATOM);
                }
            }
        }

        private void emit(char code) {
            if (size >= 0 && size < codes.length) {
                codes[size] = code;
                size++;
            }
        }

        private void push(char character) {
            if (depth >= 0 && depth < stack.length) {
                stack[depth] = character;
                depth++;
            }
        }

        private char top() {
            return depth <= 0 || depth > stack.length ? NOTHING : stack[depth - 1];
        }

        private char pop() {
            char character = top();
            depth = Math.max(depth - 1, 0);
            return character;
        }
    }

    /** The positions of a pattern; sets of positions are bits of an int. */
    private static final class Positions {
        private final int[] having = new int[ALPHABET];
        private final int[] followers = new int[MOST_LETTERS];
        // For the parts that still wait for their sign or joint; in the end the whole pattern is at the bottom.
        private final int[] firsts = new int[MOST_LETTERS];
        private final int[] lasts = new int[MOST_LETTERS];
        private final boolean[] empties = new boolean[MOST_LETTERS];
        private int depth = 0;
        private int size = 0;

        void number(Pattern pattern) {
            depth = 0;
            size = 0;
            Arrays.fill(having, 0);
            Arrays.fill(followers, 0);
            for (int index = 0; index < pattern.size(); index++) {
                char code = pattern.code(index);
                if (isLetter(code)) {
                    addPosition(code - 'a');
                } else if (isSign(code)) {
                    sign(code);
                } else {
                    join(code);
                }
            }
        }

        boolean acceptNothing() {
            return empties[0];
        }

        int first() {
            return firsts[0];
        }

        int last() {
            return lasts[0];
        }

        /** The positions that have a letter. */
        int having(int letter) {
            return letter < 0 || letter >= ALPHABET ? 0 : having[letter];
        }

        /** The positions that follow a position of the set. */
        int followersOf(int set) {
            int found = 0;
            for (int position = 0; position < MOST_LETTERS; position++) {
                if ((set >> position & 1) != 0) {
                    found |= followers[position];
                }
            }
            return found;
        }

        /**
         * Every position is part of an accepted word, so a pattern accepts infinitely many words exactly if
         * positions are left when those without a follower that is left are taken away again and again.
         */
        boolean haveCycle() {
            int left = (1 << size) - 1;
            for (int round = 0; round < MOST_LETTERS; round++) {
                for (int position = 0; position < MOST_LETTERS; position++) {
                    if ((followers[position] & left) == 0) {
                        left &= ~(1 << position);
                    }
                }
            }
            return left != 0;
        }

        private void addPosition(int letter) {
            if (depth < 0 || depth >= MOST_LETTERS || size >= MOST_LETTERS || letter < 0 || letter >= ALPHABET) {
                return;
            }
            int set = 1 << size;
            having[letter] |= set;
            firsts[depth] = set;
            lasts[depth] = set;
            empties[depth] = false;
            depth++;
            size++;
        }

        private void sign(char code) {
            int top = depth - 1;
            if (top < 0 || top >= MOST_LETTERS) {
                return;
            }
            if (code != '?') {
                addFollowers(lasts[top], firsts[top]);
            }
            if (code != '+') {
                empties[top] = true;
            }
        }

        private void join(char code) {
            int left = depth - 2;
            int right = depth - 1;
            if (left < 0 || right >= MOST_LETTERS) {
                return;
            }
            depth--;
            if (code == BAR) {
                firsts[left] |= firsts[right];
                lasts[left] |= lasts[right];
                empties[left] |= empties[right];
                return;
            }
            addFollowers(lasts[left], firsts[right]);
            firsts[left] |= empties[left] ? firsts[right] : 0;
            lasts[left] = lasts[right] | (empties[right] ? lasts[left] : 0);
            empties[left] &= empties[right];
        }

        private void addFollowers(int set, int following) {
            for (int position = 0; position < MOST_LETTERS; position++) {
                if ((set >> position & 1) != 0) {
                    followers[position] |= following;
                }
            }
        }
    }

    /**
     * The automaton of a pattern. Its states are numbered in the order in which they are found, level by level
     * and with the letters in their order; the word that finds a state first is therefore the shortest one that
     * leads to it, and the first of these in the order of the alphabet.
     */
    private static final class Automaton {
        private final Positions positions = new Positions();
        private final int[] sets = new int[MOST_STATES];
        private final int[] numbers = new int[MOST_SETS];
        private final int[] targets = new int[MOST_STATES * ALPHABET];
        private final boolean[] accepting = new boolean[MOST_STATES];
        // The index in targets through which the state was found.
        private final int[] origins = new int[MOST_STATES];
        private final int[] ways = new int[MOST_STATES];
        private final int[] nextWays = new int[MOST_STATES];
        private int size = 0;

        void build(Pattern pattern) {
            positions.number(pattern);
            Arrays.fill(numbers, -1);
            size = 1;
            sets[0] = 0;
            origins[0] = 0;
            accepting[0] = positions.acceptNothing();
            for (int state = 0; state < size && state < MOST_STATES; state++) {
                int reached = state == 0 ? positions.first() : positions.followersOf(sets[state]);
                for (int letter = 0; letter < ALPHABET; letter++) {
                    int origin = state * ALPHABET + letter;
                    targets[origin] = numberOf(reached & positions.having(letter), origin);
                }
            }
        }

        int size() {
            return size;
        }

        int acceptingSize() {
            int total = 0;
            for (int state = 0; state < size && state < MOST_STATES; state++) {
                total += accepting[state] ? 1 : 0;
            }
            return total;
        }

        int step(int state, int letter) {
            int index = state * ALPHABET + letter;
            return index < 0 || index >= targets.length ? 0 : targets[index];
        }

        boolean isAccepting(int state) {
            return state >= 0 && state < MOST_STATES && accepting[state];
        }

        boolean accepts(Word word) {
            if (word == null) {
                return false;
            }
            int state = 0;
            for (int place = 0; place < word.size(); place++) {
                state = step(state, word.letter(place));
            }
            return isAccepting(state);
        }

        /** Answers -1 if no prefix is accepted. */
        int longestAcceptedPrefix(Word word) {
            int state = 0;
            int longest = isAccepting(0) ? 0 : -1;
            for (int place = 0; place < word.size(); place++) {
                state = step(state, word.letter(place));
                longest = isAccepting(state) ? place + 1 : longest;
            }
            return longest;
        }

        int countByStates(int length) {
            Arrays.fill(ways, 0);
            ways[0] = 1;
            for (int place = 0; place < length; place++) {
                moveWays();
            }
            int total = 0;
            for (int state = 0; state < size && state < MOST_STATES; state++) {
                total += accepting[state] ? ways[state] : 0;
            }
            return total;
        }

        int countByListing(int length) {
            int words = 1;
            for (int place = 0; place < length && place < MOST_COUNTED_LETTERS; place++) {
                words *= ALPHABET;
            }
            int total = 0;
            for (int number = 0; number < words; number++) {
                total += acceptsDigits(number, length) ? 1 : 0;
            }
            return total;
        }

        /** Every pattern accepts a word; -1 would tell that none is accepted. */
        int shortestAccepted() {
            int length = 0;
            int state = firstAccepting();
            while (state > 0 && state < MOST_STATES && length < MOST_STATES) {
                state = origins[state] / ALPHABET;
                length++;
            }
            return state < 0 ? -1 : length;
        }

        void writeShortest(StringBuilder line) {
            line.setLength(0);
            int state = firstAccepting();
            while (state > 0 && state < MOST_STATES && line.length() < MOST_STATES) {
                line.append((char) ('a' + origins[state] % ALPHABET));
                state = origins[state] / ALPHABET;
            }
            line.reverse();
        }

        private int numberOf(int set, int origin) {
            int index = set & MOST_SETS - 1;
            if (numbers[index] < 0 && size >= 0 && size < MOST_STATES) {
                numbers[index] = size;
                sets[size] = index;
                origins[size] = origin;
                accepting[size] = (index & positions.last()) != 0;
                size++;
            }
            return numbers[index];
        }

        private int firstAccepting() {
            for (int state = 0; state < size && state < MOST_STATES; state++) {
                if (accepting[state]) {
                    return state;
                }
            }
            return -1;
        }

        private void moveWays() {
            Arrays.fill(nextWays, 0);
            for (int state = 0; state < size && state < MOST_STATES; state++) {
                for (int letter = 0; letter < ALPHABET; letter++) {
                    int target = step(state, letter);
                    if (target >= 0 && target < MOST_STATES) {
                        nextWays[target] += ways[state];
                    }
                }
            }
            System.arraycopy(nextWays, 0, ways, 0, MOST_STATES);
        }

        /** Whether the word is accepted whose letters are the digits of the number to the base 3. */
        private boolean acceptsDigits(int number, int length) {
            int state = 0;
            int rest = number;
            for (int place = 0; place < length; place++) {
                state = step(state, rest % ALPHABET);
                rest /= ALPHABET;
            }
            return isAccepting(state);
        }
    }

    /**
     * The smallest automaton, by dividing the states of an automaton into classes. The classes are numbered by
     * their first states, which are in the order of the words that find them; so the smallest automata of
     * patterns that accept the same words are equal number by number.
     */
    private static final class Smallest {
        private final int[] classes = new int[MOST_STATES];
        private final int[] finer = new int[MOST_STATES];
        private final int[] heads = new int[MOST_STATES];
        private final int[] targets = new int[MOST_STATES * ALPHABET];
        private final boolean[] accepting = new boolean[MOST_STATES];
        private int size = 0;

        void build(Automaton automaton) {
            int states = Math.min(automaton.size(), MOST_STATES);
            for (int state = 0; state < states; state++) {
                classes[state] = automaton.isAccepting(state) == automaton.isAccepting(0) ? 0 : 1;
            }
            size = 0;
            for (int round = 0; round < MOST_STATES; round++) {
                int divided = divide(automaton, states);
                System.arraycopy(finer, 0, classes, 0, MOST_STATES);
                if (divided == size) {
                    break;
                }
                size = divided;
            }
            fillTargets(automaton);
        }

        int size() {
            return size;
        }

        boolean equalsOther(Smallest other) {
            if (size != other.size) {
                return false;
            }
            for (int number = 0; number < size && number < MOST_STATES; number++) {
                if (accepting[number] != other.accepting[number]) {
                    return false;
                }
            }
            for (int index = 0; index < size * ALPHABET && index < targets.length; index++) {
                if (targets[index] != other.targets[index]) {
                    return false;
                }
            }
            return true;
        }

        /** Puts the states together that are alike in the classes so far, and answers how many classes that makes. */
        private int divide(Automaton automaton, int states) {
            int found = 0;
            for (int state = 0; state < states && state < MOST_STATES; state++) {
                int number = 0;
                while (number < found && number < MOST_STATES && !areAlike(automaton, heads[number], state)) {
                    number++;
                }
                if (number == found && found < MOST_STATES) {
                    heads[found] = state;
                    found++;
                }
                finer[state] = number;
            }
            return found;
        }

        private boolean areAlike(Automaton automaton, int one, int other) {
            if (classOf(one) != classOf(other)) {
                return false;
            }
            for (int letter = 0; letter < ALPHABET; letter++) {
                if (classOf(automaton.step(one, letter)) != classOf(automaton.step(other, letter))) {
                    return false;
                }
            }
            return true;
        }

        private int classOf(int state) {
            return state < 0 || state >= MOST_STATES ? -1 : classes[state];
        }

        private void fillTargets(Automaton automaton) {
            for (int number = 0; number < size && number < MOST_STATES; number++) {
                accepting[number] = automaton.isAccepting(heads[number]);
                for (int letter = 0; letter < ALPHABET; letter++) {
                    targets[number * ALPHABET + letter] = classOf(automaton.step(heads[number], letter));
                }
            }
        }
    }

    /** Pairs of states: of one automaton, to mark those that a word tells apart, or of two, to follow both at once. */
    private static final class Pairs {
        private static final int MOST_PAIRS = MOST_STATES * MOST_STATES;

        private final boolean[] marked = new boolean[MOST_PAIRS];
        private final int[] found = new int[MOST_PAIRS];
        // For a found pair, the index of the pair before it, times the letters, plus the letter between them.
        private final int[] origins = new int[MOST_PAIRS];
        private int foundTotal = 0;
        private int sought = -1;

        /** The number of states of which no two accept the same words from there on. */
        int countToldApart(Automaton automaton) {
            int states = Math.min(automaton.size(), MOST_STATES);
            for (int one = 0; one < states; one++) {
                for (int other = 0; other < states; other++) {
                    marked[one * states + other] = automaton.isAccepting(one) != automaton.isAccepting(other);
                }
            }
            boolean changing = true;
            for (int round = 0; changing && round < MOST_STATES; round++) {
                changing = markMore(automaton, states);
            }
            int total = 0;
            for (int state = 0; state < states; state++) {
                total += isApartFromEarlier(state, states) ? 1 : 0;
            }
            return total;
        }

        /** Looks for the first word that exactly one of both accepts. */
        boolean findApart(Automaton one, Automaton other) {
            return find(one, other, false);
        }

        /** Looks for the first word that the first one accepts and the other one does not. */
        boolean findOnlyFirst(Automaton one, Automaton other) {
            return find(one, other, true);
        }

        /** The length of the word that was found. */
        int foundLength() {
            int length = 0;
            int index = sought;
            while (index > 0 && index < MOST_PAIRS && length < MOST_PAIRS) {
                index = origins[index] / ALPHABET;
                length++;
            }
            return length;
        }

        /** Puts the word that was found into the line, or nothing if none was. */
        void writeFound(StringBuilder line) {
            line.setLength(0);
            int index = sought;
            while (index > 0 && index < MOST_PAIRS && line.length() < MOST_PAIRS) {
                line.append((char) ('a' + origins[index] % ALPHABET));
                index = origins[index] / ALPHABET;
            }
            line.reverse();
        }

        private boolean markMore(Automaton automaton, int states) {
            boolean changed = false;
            for (int one = 0; one < states; one++) {
                for (int other = 0; other < one; other++) {
                    if (!isMarked(one, other, states) && leadApart(automaton, one, other)) {
                        mark(one * states + other);
                        mark(other * states + one);
                        changed = true;
                    }
                }
            }
            return changed;
        }

        private boolean leadApart(Automaton automaton, int one, int other) {
            for (int letter = 0; letter < ALPHABET; letter++) {
                if (isMarked(automaton.step(one, letter), automaton.step(other, letter), automaton.size())) {
                    return true;
                }
            }
            return false;
        }

        private boolean isApartFromEarlier(int state, int states) {
            for (int earlier = 0; earlier < state; earlier++) {
                if (!isMarked(state, earlier, states)) {
                    return false;
                }
            }
            return true;
        }

        private boolean isMarked(int one, int other, int others) {
            int pair = one * others + other;
            return pair >= 0 && pair < MOST_PAIRS && marked[pair];
        }

        private void mark(int pair) {
            if (pair >= 0 && pair < MOST_PAIRS) {
                marked[pair] = true;
            }
        }

        /** Follows both automata over the words in the order of length and alphabet, each pair of states once. */
        private boolean find(Automaton one, Automaton other, boolean onlyFirst) {
            int others = other.size();
            if (others <= 0) {
                return false;
            }
            for (int pair = 0; pair < one.size() * others && pair < MOST_PAIRS; pair++) {
                marked[pair] = false;
            }
            foundTotal = 0;
            reach(0, 0);
            for (int index = 0; index < foundTotal && index < MOST_PAIRS; index++) {
                int first = found[index] / others;
                int second = found[index] % others;
                boolean accepted = one.isAccepting(first);
                if (accepted != other.isAccepting(second) && (accepted || !onlyFirst)) {
                    sought = index;
                    return true;
                }
                for (int letter = 0; letter < ALPHABET; letter++) {
                    int pair = one.step(first, letter) * others + other.step(second, letter);
                    reach(pair, index * ALPHABET + letter);
                }
            }
            sought = -1;
            return false;
        }

        private void reach(int pair, int origin) {
            if (pair < 0 || pair >= MOST_PAIRS || marked[pair] || foundTotal < 0 || foundTotal >= MOST_PAIRS) {
                return;
            }
            marked[pair] = true;
            found[foundTotal] = pair;
            origins[foundTotal] = origin;
            foundTotal++;
        }
    }

    /** Finds for each part of a pattern which spans of a word it accepts. */
    private static final class Spans {
        private static final int PLACES = MOST_MATCHED_LETTERS + 1;

        // For each part that waits for its sign or joint and each place: the places where an accepted span ends, as bits.
        private final int[] ends = new int[MOST_LETTERS * PLACES];
        private int depth = 0;
        private int last = 0;

        boolean accept(Pattern pattern, Word word) {
            if (word == null || word.size() > MOST_MATCHED_LETTERS) {
                return false;
            }
            depth = 0;
            last = word.size();
            for (int index = 0; index < pattern.size(); index++) {
                char code = pattern.code(index);
                if (isLetter(code)) {
                    addLetter(code - 'a', word);
                } else if (isSign(code)) {
                    sign(code);
                } else {
                    join(code);
                }
            }
            return (ends[0] >> last & 1) != 0;
        }

        private void addLetter(int letter, Word word) {
            if (depth < 0 || depth >= MOST_LETTERS) {
                return;
            }
            for (int place = 0; place <= last && place < PLACES; place++) {
                ends[depth * PLACES + place] = word.letter(place) == letter ? 1 << place + 1 : 0;
            }
            depth++;
        }

        private void join(char code) {
            int left = depth - 2;
            int right = depth - 1;
            if (left < 0 || right >= MOST_LETTERS) {
                return;
            }
            depth--;
            for (int place = 0; place <= last && place < PLACES; place++) {
                int row = left * PLACES + place;
                ends[row] = code == BAR ? ends[row] | ends[right * PLACES + place] : endsFrom(right, ends[row]);
            }
        }

        private void sign(char code) {
            int top = depth - 1;
            if (top < 0 || top >= MOST_LETTERS) {
                return;
            }
            // From the last place on, because repetitions only lead to later places; empty ones add nothing.
            for (int place = Math.min(last, PLACES - 1); place >= 0; place--) {
                int row = top * PLACES + place;
                if (code != '?') {
                    ends[row] |= endsFrom(top, ends[row] & ~(1 << place));
                }
                if (code != '+') {
                    ends[row] |= 1 << place;
                }
            }
        }

        /** The ends of the spans of a part that start at one of the places. */
        private int endsFrom(int part, int places) {
            int all = 0;
            for (int place = 0; place <= last && place < PLACES; place++) {
                if ((places >> place & 1) != 0) {
                    all |= ends[part * PLACES + place];
                }
            }
            return all;
        }
    }
}
