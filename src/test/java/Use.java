/** Short ways to use a library in tests. */
final class Use {
    private Use() {
    }

    static PatternLibrary type(PatternLibrary library, String text) {
        for (char character : text.toCharArray()) {
            library.append(character);
        }
        return library;
    }

    /** A library with these patterns in the slots from 0 on; null leaves a slot free. */
    static PatternLibrary library(String... patterns) {
        PatternLibrary library = new PatternLibrary();
        for (int slot = 0; slot < patterns.length; slot++) {
            if (patterns[slot] != null) {
                define(library, slot, patterns[slot]);
            }
        }
        return library;
    }

    static int define(PatternLibrary library, int slot, String pattern) {
        return type(library, pattern).define(slot);
    }

    static PatternLibrary samples(PatternLibrary library, String... words) {
        for (String word : words) {
            type(library, word).addWord();
        }
        return library;
    }

    static int run(PatternLibrary library, String program) {
        return type(library, program).run();
    }

    static String line(PatternLibrary library) {
        StringBuilder line = new StringBuilder();
        for (int index = 0; index < 1000; index++) {
            int at = index;
            String answer = Check.answer(() -> library.lineChar(at));
            if (answer.startsWith("throws")) {
                return line.toString();
            }
            line.append(answer);
        }
        return "a line without end";
    }

    static String format(PatternLibrary library, int slot) {
        int length = library.formatPattern(slot);
        String line = line(library);
        return line.length() == length ? line : line + " told as " + length;
    }

    static String word(PatternLibrary library, int index) {
        StringBuilder word = new StringBuilder();
        for (int place = 0; place < library.wordLength(index); place++) {
            word.append(library.wordLetter(index, place));
        }
        return word.toString();
    }

    /** What changes can change. */
    static String shelf(PatternLibrary library) {
        StringBuilder all = new StringBuilder();
        for (int slot = 0; slot < 6; slot++) {
            all.append(library.hasPattern(slot) ? format(library, slot) : "-").append(' ');
        }
        for (int index = 0; index < library.wordCount(); index++) {
            all.append('"').append(word(library, index)).append("\" ");
        }
        return all.append(library.definedTotal()).append(" put").toString();
    }

    /** All that can be told about a library, with the changes that can be undone and the saved copy; uses it up. */
    static String everything(PatternLibrary library) {
        StringBuilder all = new StringBuilder();
        all.append("line ").append(line(library));
        all.append("\nerror ").append(Check.answer(library::errorPosition));
        all.append("\nfailed ").append(Check.answer(library::failedCommand));
        all.append("\nnow ").append(shelf(library));
        all.append("\nundoable ").append(library.undoableCount());
        for (int count = library.undoableCount(); count > 0; count--) {
            all.append("\nundo ").append(library.undo()).append(": ").append(shelf(library));
        }
        all.append("\nrestore ").append(Check.answer(library::restore)).append(": ").append(shelf(library));
        all.append("\nbuffer ").append(buffer(library));
        return all.toString();
    }

    /** The buffer, as far as its size, matching it and reading it as the start of a pattern tell it; uses it up. */
    private static String buffer(PatternLibrary library) {
        StringBuilder told = new StringBuilder();
        told.append(Check.answer(() -> library.matches(firstPattern(library))));
        told.append(' ').append(Check.answer(() -> library.append('|')));
        told.append(' ').append(Check.answer(() -> library.define(0)));
        told.append(' ').append(Check.answer(library::errorPosition));
        told.append(' ').append(library.clearBuffer());
        return told.toString();
    }

    private static int firstPattern(PatternLibrary library) {
        for (int slot = 0; slot < 6; slot++) {
            if (library.hasPattern(slot)) {
                return slot;
            }
        }
        return -1;
    }
}
