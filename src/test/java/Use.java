import java.util.ArrayList;
import java.util.List;

/** Short ways to use a library in tests. */
final class Use {
    private Use() {
    }

    static PatternLibrary type(PatternLibrary library, String text) {
        for (char character : text.toCharArray()) {
            library.append(character);
        }
        return library;
    }

    /** A library with these patterns in the slots from 0 on; null leaves a slot free. */
    static PatternLibrary library(String... patterns) {
        PatternLibrary library = new PatternLibrary();
        for (int slot = 0; slot < patterns.length; slot++) {
            if (patterns[slot] != null) {
                define(library, slot, patterns[slot]);
            }
        }
        return library;
    }

    static int define(PatternLibrary library, int slot, String pattern) {
        return type(library, pattern).define(slot);
    }

    static PatternLibrary samples(PatternLibrary library, String... words) {
        for (String word : words) {
            type(library, word).addWord();
        }
        return library;
    }

    static int run(PatternLibrary library, String program) {
        return type(library, program).run();
    }

    static String line(PatternLibrary library) {
        StringBuilder line = new StringBuilder();
        for (int index = 0; index < 1000; index++) {
            int at = index;
            String answer = Check.answer(() -> library.lineChar(at));
            if (answer.startsWith("throws")) {
                return line.toString();
            }
            line.append(answer);
        }
        return "a line without end";
    }

    static String format(PatternLibrary library, int slot) {
        int length = library.formatPattern(slot);
        String line = line(library);
        return line.length() == length ? line : line + " told as " + length;
    }

    static String word(PatternLibrary library, int index) {
        StringBuilder word = new StringBuilder();
        for (int place = 0; place < library.wordLength(index); place++) {
            word.append(library.wordLetter(index, place));
        }
        return word.toString();
    }

    /** All words of the letters up to a length that a pattern accepts, shorter ones first; "-" is the empty one. */
    static String accepted(String pattern, int most) {
        PatternLibrary library = library(pattern);
        StringBuilder accepted = new StringBuilder();
        for (String word : words(most)) {
            library.clearBuffer();
            if (type(library, word).matches(0)) {
                accepted.append(accepted.length() == 0 ? "" : " ").append(word.isEmpty() ? "-" : word);
            }
        }
        return accepted.toString();
    }

    private static List<String> words(int most) {
        List<String> words = new ArrayList<>(List.of(""));
        for (int index = 0; index < words.size() && words.get(index).length() < most; index++) {
            for (String letter : new String[] {"a", "b", "c"}) {
                words.add(words.get(index) + letter);
            }
        }
        return words;
    }

    /** What changes can change. */
    static String shelf(PatternLibrary library) {
        StringBuilder all = new StringBuilder();
        for (int slot = 0; slot < 6; slot++) {
            all.append(library.hasPattern(slot) ? format(library, slot) : "-").append(' ');
        }
        for (int index = 0; index < library.wordCount(); index++) {
            all.append('"').append(word(library, index)).append("\" ");
        }
        return all.append(library.definedTotal()).append(" put").toString();
    }

    /** All that can be told about a library, with the changes that can be undone and the saved copy; uses it up. */
    static String everything(PatternLibrary library) {
        StringBuilder all = new StringBuilder();
        all.append("line ").append(line(library));
        all.append("\nerror ").append(Check.answer(library::errorPosition));
        all.append("\nfailed ").append(Check.answer(library::failedCommand));
        all.append("\nnow ").append(shelf(library));
        all.append("\nundoable ").append(library.undoableCount());
        for (int count = library.undoableCount(); count > 0; count--) {
            all.append("\nundo ").append(library.undo()).append(": ").append(shelf(library));
        }
        all.append("\nrestore ").append(Check.answer(library::restore)).append(": ").append(shelf(library));
        all.append("\nbuffer ").append(bufferedPattern(library));
        return all.toString();
    }

    /** The buffer, as far as its size, matching it and reading it as the start of a pattern tell it; uses it up. */
    private static String bufferedPattern(PatternLibrary library) {
        StringBuilder told = new StringBuilder();
        told.append(Check.answer(() -> library.matches(firstPattern(library))));
        told.append(' ').append(Check.answer(() -> library.append('|')));
        told.append(' ').append(Check.answer(() -> library.define(0)));
        told.append(' ').append(Check.answer(library::errorPosition));
        told.append(' ').append(library.clearBuffer());
        return told.toString();
    }

    /** The buffer, as far as adding it to the sample words tells it; uses them and it up. */
    static String bufferedWord(PatternLibrary library) {
        while (library.wordCount() > 0) {
            library.removeWord(0);
        }
        String answer = Check.answer(library::addWord);
        return library.wordCount() == 1 ? word(library, 0) : answer;
    }

    private static int firstPattern(PatternLibrary library) {
        for (int slot = 0; slot < 6; slot++) {
            if (library.hasPattern(slot)) {
                return slot;
            }
        }
        return -1;
    }
}
