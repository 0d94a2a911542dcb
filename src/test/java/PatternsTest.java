import java.util.Random;

/** Asks the library and the model everything about many patterns, and about each one with the one before it. */
final class PatternsTest {
    private static final int PATTERNS = 1500;
    private static final String LETTERS = "abc";

    private PatternsTest() {
    }

    public static void main(String[] args) {
        Random random = new Random(1);
        PatternLibrary before = null;
        String last = "a";
        int made = 0;
        while (made < PATTERNS) {
            String text = Texts.pattern(random, 1 + random.nextInt(7));
            if (Tree.parse(text).signs() > 9 || text.length() > 60) {
                continue;
            }
            made++;
            // Every third pattern is followed by a changed form of itself, so that equal ones are compared, too.
            check(text, made % 3 == 0 ? last : changed(random, text), random);
            last = text;
        }
        Check.finish("PatternsTest");
    }

    private static String changed(Random random, String text) {
        String other = random.nextBoolean() ? text.replaceFirst("\\*", "+") : text.replaceFirst("\\|", "");
        boolean fits = Tree.isPattern(other) && Tree.parse(other).signs() <= 9;
        return fits ? other : text;
    }

    private static void check(String text, String other, Random random) {
        PatternLibrary library = new PatternLibrary();
        Model model = new Model();
        put(library, model, 0, text);
        put(library, model, 1, other);
        put(library, model, 2, "a");
        library.repeat(2, 2);
        model.repeat(2, 2);
        one(text, library, model);
        pair(text + " and " + other, library, model);
        words(text, library, model, random);
    }

    private static void put(PatternLibrary library, Model model, int slot, String text) {
        for (char character : text.toCharArray()) {
            library.append(character);
            model.append(character);
        }
        Check.same("define " + text, library.define(slot), model.define(slot));
    }

    private static void one(String text, PatternLibrary library, Model model) {
        Check.same("formatPattern " + text, library.formatPattern(0), model.formatPattern(0));
        line(text, library, model);
        Check.same("formatShortest " + text, library.formatShortest(0), model.formatShortest(0));
        line(text, library, model);
        Check.same("shortestLength " + text, library.shortestLength(0), model.shortestLength(0));
        Check.same("letterCount " + text, library.letterCount(0), model.letterCount(0));
        Check.same("acceptsEmpty " + text, library.acceptsEmpty(0), model.acceptsEmpty(0));
        Check.same("stateCount " + text, library.stateCount(0), model.stateCount(0));
        Check.same("acceptingCount " + text, library.acceptingCount(0), model.acceptingCount(0));
        Check.same("smallestCount " + text, library.smallestCount(0), model.smallestCount(0));
        Check.same("smallestCountByPairs " + text, library.smallestCountByPairs(0), model.smallestCount(0));
        Check.same("isFinite " + text, library.isFinite(0), model.isFinite(0));
        Check.same("isUniversal " + text, library.isUniversal(0), model.isUniversal(0));
        for (char first : LETTERS.toCharArray()) {
            Check.same("canBegin " + text + first, library.canBegin(0, first), model.canBegin(0, first));
            Check.same("canEnd " + text + first, library.canEnd(0, first), model.canEnd(0, first));
            for (char second : LETTERS.toCharArray()) {
                Check.same("canBeAdjacent " + text + first + second, library.canBeAdjacent(0, first, second),
                    model.canBeAdjacent(0, first, second));
            }
        }
        for (int length = 0; length <= 6; length++) {
            int due = model.countWords(0, length);
            Check.same("countWords " + text + length, library.countWords(0, length), due);
            Check.same("countWordsByListing " + text + length, library.countWordsByListing(0, length), due);
        }
    }

    private static void pair(String text, PatternLibrary library, Model model) {
        Check.same("areEquivalent " + text, library.areEquivalent(0, 1), model.areEquivalent(0, 1));
        Check.same("areEquivalentBySmallest " + text, library.areEquivalentBySmallest(0, 1), model.areEquivalent(0, 1));
        Check.same("isIncluded " + text, library.isIncluded(0, 1), model.isIncluded(0, 1));
        Check.same("isIncluded back " + text, library.isIncluded(1, 0), model.isIncluded(1, 0));
        Check.same("differenceLength " + text, library.differenceLength(0, 1), model.differenceLength(0, 1));
        Check.same("formatDifference " + text, library.formatDifference(0, 1), model.formatDifference(0, 1));
        line(text, library, model);
        for (int rank = 0; rank < 3; rank++) {
            Check.same("slotByStates " + text, library.slotByStates(rank), model.slotByStates(rank));
        }
    }

    private static void words(String text, PatternLibrary library, Model model, Random random) {
        Dfa dfa = new Dfa(Tree.parse(text), false);
        for (int times = 0; times <= 12; times++) {
            String word = word(dfa, times, random);
            for (char letter : word.toCharArray()) {
                library.append(letter);
                model.append(letter);
            }
            Check.same("matches " + text + " " + word, library.matches(0), model.matches(0));
            Check.same("matchesBySpans " + text + " " + word, library.matchesBySpans(0), model.matches(0));
            Check.same("longestPrefix " + text + " " + word, library.longestPrefix(0), model.longestPrefix(0));
            if (times >= 1 && times <= 8) {
                Check.same("addWord " + word, library.addWord(), model.addWord());
            }
            library.clearBuffer();
            model.clearBuffer();
        }
        Check.same("acceptedWords " + text, library.acceptedWords(0), model.acceptedWords(0));
        Check.same("acceptedShare " + text, library.acceptedShare(0), model.acceptedShare(0));
        Check.same("isConsistent " + text, library.isConsistent(), true);
    }

    /** A word that mostly begins as an accepted one does. */
    private static String word(Dfa dfa, int length, Random random) {
        StringBuilder word = new StringBuilder();
        int state = 0;
        while (word.length() < length) {
            int letter = random.nextInt(3);
            for (int tries = 0; tries < 4 && !dfa.isAlive(dfa.step(state, letter)); tries++) {
                letter = random.nextInt(3);
            }
            word.append(LETTERS.charAt(letter));
            state = dfa.step(state, letter);
        }
        return word.toString();
    }

    private static void line(String text, PatternLibrary library, Model model) {
        StringBuilder due = new StringBuilder();
        while (!Check.answer(() -> model.lineChar(due.length())).startsWith("throws")) {
            due.append(model.lineChar(due.length()));
        }
        Check.same("line of " + text, Use.line(library), due.toString());
    }
}
