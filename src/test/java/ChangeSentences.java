import java.util.function.Supplier;

/** Tests for the sentences of promises 1 to 8: a new object, and the changes of slots and sample words. */
final class ChangeSentences {
    private static final String TOO_LARGE = "throws IllegalStateException";

    private final Sentences document;

    ChangeSentences(Sentences document) {
        this.document = document;
    }

    /** unite or concatenate. */
    private interface Join {
        int of(PatternLibrary library, int slot, int one, int other);
    }

    void tell() {
        creation();
        define();
        document.under("Promise 3: unite");
        document.says("Puts a pattern into a slot that accepts the words that one of two patterns accepts: the branches of both, those of "
            + "the first one first.", ChangeSentences::united);
        join(PatternLibrary::unite, "|");
        document.under("Promise 4: concatenate");
        document.says("Puts a pattern into a slot that accepts the words that consist of a word of one pattern and a word of the other "
            + "one.", ChangeSentences::concatenated);
        join(PatternLibrary::concatenate, "");
        repeat();
        remove();
        addWord();
        removeWord();
    }

    /** Six patterns, so that every slot can be seen to change alone. */
    private static PatternLibrary six() {
        return Use.library("a", "b*", "c", "ab", "b|c", "(a|c)+");
    }

    /** As six() is formatted, with another pattern in a slot. */
    private static String sixWith(int slot, String pattern, int puts) {
        String[] patterns = {"a", "b*", "c", "ab", "b|c", "(a|c)+"};
        patterns[slot] = pattern;
        return String.join(" ", patterns) + " " + puts + " put";
    }

    private void creation() {
        document.under("Promise 1: A new object");
        document.says("Creates a library in which all slots are free, without sample words.", () -> {
            PatternLibrary library = new PatternLibrary();
            for (int slot = 0; slot < 6; slot++) {
                Check.same("hasPattern " + slot, library.hasPattern(slot), false);
            }
            Check.same("patternCount", library.patternCount(), 0);
            Check.same("wordCount", library.wordCount(), 0);
            Check.thrown("word 0", Refused.NO_INDEX, () -> library.wordLength(0));
            Check.same("definedTotal", library.definedTotal(), 0);
            Check.same("undoableCount", library.undoableCount(), 0);
            Check.thrown("restore", Refused.STATE, library::restore);
            Check.thrown("errorPosition", Refused.NO_ELEMENT, library::errorPosition);
            Check.thrown("failedCommand", Refused.NO_ELEMENT, library::failedCommand);
            Check.thrown("lineChar", Refused.NO_INDEX, () -> library.lineChar(0));
            Check.same("isConsistent", library.isConsistent(), true);
            Check.same("clearBuffer", library.clearBuffer(), 0);
            PatternLibrary other = Use.samples(Use.library("a"), "b");
            Check.same("another library is used", Use.shelf(other), "a - - - - - \"b\" 1 put");
            Check.same("and this one stays new", Use.shelf(library), "- - - - - - 0 put");
        });
    }

    private void define() {
        document.under("Promise 2: define");
        document.says("Puts the pattern that the buffer contains into a slot, replacing the pattern there.", () -> {
            PatternLibrary library = Use.type(six(), "a(b|c)*");
            library.define(3);
            Check.same("slot 3 is replaced", Use.shelf(library), sixWith(3, "a(b|c)*", 7));
            Use.define(library, 3, "b");
            Check.same("and again", Use.shelf(library), sixWith(3, "b", 8));
            Check.same("the words of it", Use.accepted("a(b|c)*", 2), "a ab ac");
        });
        document.says("The buffer is empty afterwards, unless the slot does not exist.", () -> {
            PatternLibrary library = Use.library("a");
            Check.same("after a pattern", library.clearBuffer(), 0);
            Check.thrown("malformed", Refused.ARGUMENT, () -> Use.define(library, 0, "ab)"));
            Check.same("after a malformed text", library.clearBuffer(), 0);
            Check.thrown("too large", Refused.STATE, () -> Use.define(library, 0, "abcabcab"));
            Check.same("after too large a pattern", library.clearBuffer(), 0);
            for (int slot : Refused.WRONG_SLOTS) {
                Refused.typed(library, "bc*");
                Check.thrown("no slot", Refused.NO_INDEX, () -> library.define(slot));
                Check.same("the buffer is kept", library.append('b'), 4);
                Check.same("and can be defined", library.define(1), 3);
                Check.same("as it was", Use.format(library, 1), "bc*b");
            }
        });
        document.says("- `slot`: the slot, 0 to 5", () -> {
            for (int slot = 0; slot < 6; slot++) {
                PatternLibrary library = six();
                Check.same("define " + slot, Use.define(library, slot, "bca"), 3);
                Check.same("in slot " + slot, Use.shelf(library), sixWith(slot, "bca", 7));
            }
            Check.thrown("define -1", Refused.NO_INDEX, () -> Use.define(six(), -1, "a"));
            Check.thrown("define 6", Refused.NO_INDEX, () -> Use.define(six(), 6, "a"));
        });
        document.says("Returns the number of letters of the pattern.", () -> {
            Check.same("of b", Use.define(six(), 0, "b"), 1);
            Check.same("of ((a)*)+", Use.define(six(), 0, "((a)*)+"), 1);
            Check.same("of a|a", Use.define(six(), 0, "a|a"), 2);
            Check.same("of a(b|c)*a?", Use.define(six(), 0, "a(b|c)*a?"), 4);
            Check.same("of ccccccc", Use.define(six(), 0, "ccccccc"), 7);
        });
        defineRefused();
    }

    private void defineRefused() {
        document.says("Throws `IndexOutOfBoundsException` if there is no such slot", () -> {
            Refused.wrongSlots("define", Refused.NO_INDEX, PatternLibrary::define);
            for (String text : new String[] {"", "a", "|||", "abcabcabc"}) {
                Refused.call("define 6 of " + text, Refused.NO_INDEX, () -> Refused.typed(Refused.used(), text), library -> library.define(6));
                Refused.call("define -1 of " + text, Refused.NO_INDEX, () -> Refused.typed(Refused.used(), text), library -> library.define(-1));
            }
        });
        document.says("Throws `IllegalArgumentException` if the buffer is not a pattern; the error position is stored", () -> {
            String[] texts = {"", "(", "a|", "a**", "abd", "(a|b", "a)", "(".repeat(60), "abcabcabcabc)", "a;b", "set 0=a"};
            int[] positions = {0, 1, 2, 2, 2, 4, 1, 60, 12, 1, 0};
            for (int index = 0; index < texts.length; index++) {
                String text = texts[index];
                PatternLibrary library = Use.type(six(), text);
                Check.thrown("define " + text, Refused.ARGUMENT, () -> library.define(0));
                Check.same("the error position of " + text, library.errorPosition(), positions[index]);
                Check.same("the buffer after " + text, library.clearBuffer(), 0);
                Check.same("the slots after " + text, Use.shelf(library), sixWith(0, "a", 6));
                Check.same("the changes after " + text, library.undoableCount(), 6);
                Check.thrown("no failed command in " + text, Refused.NO_ELEMENT, library::failedCommand);
            }
        });
        document.says("Throws `IllegalStateException` if the pattern is too large", () -> {
            String nineSigns = "((((a*)+)?)*)+b*c+a?(b)*";
            Check.same("7 letters", Use.define(six(), 0, "abcabca"), 7);
            Check.same("9 signs", Use.define(six(), 0, nineSigns), 5);
            for (String text : new String[] {"abcabcab", "a|b|c|a|b|c|a|b", "abc".repeat(20), "(" + nineSigns + ")?", "((a*b*c*)*(a+b+c+)*)?a*"}) {
                Supplier<PatternLibrary> made = () -> Refused.typed(Refused.used(), text);
                Refused.call("define " + text, Refused.STATE, made, library -> library.define(0), PatternLibrary::clearBuffer);
            }
        });
    }

    private static void united() {
        PatternLibrary library = Use.library("ab|c", "a*", null, "(a|b)+");
        library.unite(2, 0, 1);
        Check.same("ab|c and a*", Use.format(library, 2), "ab|c|a*");
        library.unite(2, 1, 0);
        Check.same("a* and ab|c", Use.format(library, 2), "a*|ab|c");
        Check.same("the words of them", Use.accepted("a*|ab|c", 2), "- a c aa ab");
        Use.define(library, 4, "ab|c|a*");
        Check.same("are those of one of both", library.areEquivalent(2, 4), true);
        library.unite(5, 3, 0);
        Check.same("(a|b)+ and ab|c", Use.format(library, 5), "(a|b)+|ab|c");
        Check.same("the two stay", Use.shelf(library), "ab|c a* a*|ab|c (a|b)+ ab|c|a* (a|b)+|ab|c 7 put");
        library.repeat(2, 2);
        Check.same("both branches are repeated", Use.format(library, 2), "(a*|ab|c)*");
    }

    private static void concatenated() {
        PatternLibrary library = Use.library("a|b", "c*", null, "ab?");
        library.concatenate(2, 0, 1);
        Check.same("a|b and c*", Use.format(library, 2), "(a|b)c*");
        library.concatenate(2, 1, 0);
        Check.same("c* and a|b", Use.format(library, 2), "c*(a|b)");
        Check.same("the words of them", Use.accepted("c*(a|b)", 2), "a b ca cb");
        library.concatenate(4, 3, 1);
        Check.same("ab? and c*", Use.format(library, 4), "ab?c*");
        Check.same("the two stay", Use.shelf(library), "a|b c* c*(a|b) ab? ab?c* - 6 put");
        library.repeat(4, 4);
        Check.same("both are repeated", Use.format(library, 4), "(ab?c*)*");
    }

    /** The sentences that unite and concatenate share; the two patterns are written with the sign between them. */
    private void join(Join join, String sign) {
        document.says("- `slot`: the slot, 0 to 5", () -> {
            for (int slot = 0; slot < 6; slot++) {
                PatternLibrary library = six();
                Check.same("into slot " + slot, join.of(library, slot, 0, 3), 3);
                Check.same("slots then", Use.shelf(library), sixWith(slot, "a" + sign + "ab", 7));
            }
            PatternLibrary free = Use.library("b", "c");
            join.of(free, 5, 0, 1);
            Check.same("into a free slot", Use.format(free, 5), "b" + sign + "c");
        });
        document.says("- `one`: the slot of the first pattern", () -> {
            PatternLibrary library = six();
            join.of(library, 4, 0, 2);
            Check.same("slot 0", Use.shelf(library), sixWith(4, "a" + sign + "c", 7));
            join.of(library, 4, 5, 2);
            Check.same("slot 5", Use.shelf(library), sixWith(4, "(a|c)+" + sign + "c", 8));
        });
        document.says("- `other`: the slot of the second pattern, or the same", () -> {
            PatternLibrary library = six();
            join.of(library, 4, 2, 0);
            Check.same("slot 0", Use.shelf(library), sixWith(4, "c" + sign + "a", 7));
            join.of(library, 4, 2, 5);
            Check.same("slot 5", Use.shelf(library), sixWith(4, "c" + sign + "(a|c)+", 8));
            Check.same("the same", join.of(library, 4, 3, 3), 4);
            Check.same("twice", Use.shelf(library), sixWith(4, "ab" + sign + "ab", 9));
            Check.same("all three the same", join.of(library, 2, 2, 2), 2);
            Check.same("in place", Use.format(library, 2), "c" + sign + "c");
        });
        document.says("Returns the number of letters of the pattern.", () -> {
            Check.same("1 and 1", join.of(Use.library("a", "b"), 2, 0, 1), 2);
            Check.same("3 and 4", join.of(Use.library("abc", "ab*c?a"), 2, 0, 1), 7);
            Check.same("6 and 1", join.of(Use.library("a|b|c|a|b|c", "a+"), 0, 0, 1), 7);
        });
        joinRefused(join);
    }

    private void joinRefused(Join join) {
        document.says("Throws `IndexOutOfBoundsException` if there is no such slot, for any of the three", () -> {
            Refused.wrongSlots("slot", Refused.NO_INDEX, (library, slot) -> join.of(library, slot, 0, 1));
            Refused.wrongSlots("one", Refused.NO_INDEX, (library, slot) -> join.of(library, 0, slot, 1));
            Refused.wrongSlots("other", Refused.NO_INDEX, (library, slot) -> join.of(library, 0, 1, slot));
            Refused.wrongSlots("slot before free ones", Refused.NO_INDEX, (library, slot) -> join.of(library, slot, 5, 5));
            Refused.wrongSlots("one before a free one", Refused.NO_INDEX, (library, slot) -> join.of(library, 0, slot, 5));
            Refused.wrongSlots("other after a free one", Refused.NO_INDEX, (library, slot) -> join.of(library, 0, 5, slot));
        });
        document.says("Throws `NoSuchElementException` if one or other is free", () -> {
            Refused.call("one", Refused.NO_ELEMENT, Refused::used, library -> join.of(library, 0, 5, 1));
            Refused.call("other", Refused.NO_ELEMENT, Refused::used, library -> join.of(library, 0, 1, 5));
            Refused.call("both", Refused.NO_ELEMENT, Refused::used, library -> join.of(library, 0, 4, 5));
            Refused.call("the same", Refused.NO_ELEMENT, Refused::used, library -> join.of(library, 5, 5, 5));
            Refused.call("nothing there", Refused.NO_ELEMENT, PatternLibrary::new, library -> join.of(library, 0, 0, 0));
            PatternLibrary freed = six();
            freed.remove(1);
            Check.thrown("made free", Refused.NO_ELEMENT, () -> join.of(freed, 0, 0, 1));
        });
        document.says("Throws `IllegalStateException` if the pattern would be too large", () -> {
            sized(join, "abcabca", "a", TOO_LARGE);
            sized(join, "abca", "abc", "7");
            sized(join, "abca", "abca", TOO_LARGE);
            sized(join, "a", "abcabca", TOO_LARGE);
            sized(join, "abcabca", "abcabca", TOO_LARGE);
            sized(join, "(((a*)*)*)*b*", "((a+)+)?a+", "4");
            sized(join, "(((a*)*)*)*b*", "((a+)+)?a?b+", TOO_LARGE);
            sized(join, "((((((((a*)*)*)*)*)*)*)*)*", "b", "2");
            sized(join, "((((((((a*)*)*)*)*)*)*)*)*", "b?", TOO_LARGE);
            sized(join, "((((((((a*)*)*)*)*)*)*)*)*", "bcabca", "7");
        });
    }

    private static void sized(Join join, String one, String other, String due) {
        Supplier<PatternLibrary> made = () -> Use.library(one, other);
        Check.same(one + " with " + other, Check.answer(() -> join.of(made.get(), 2, 0, 1)), due);
        if (due.equals(TOO_LARGE)) {
            Refused.call(one + " with " + other + " into a free slot", Refused.STATE, made, library -> join.of(library, 2, 0, 1));
            Refused.call(one + " with " + other + " in place", Refused.STATE, made, library -> join.of(library, 1, 0, 1));
        }
    }

    private void repeat() {
        document.under("Promise 5: repeat");
        document.says("Puts a pattern into a slot that accepts the words that consist of zero or more words of a pattern.", () -> {
            String[][] dues = {{"a", "a*"}, {"a*", "(a*)*"}, {"a|b", "(a|b)*"}, {"ab", "(ab)*"}, {"a+", "(a+)*"}, {"b?", "(b?)*"}};
            for (String[] due : dues) {
                PatternLibrary library = Use.library(due[0]);
                library.repeat(1, 0);
                Check.same("repeat of " + due[0], Use.shelf(library), due[0] + " " + due[1] + " - - - - 2 put");
            }
            Check.same("the words of (ab|c)*", Use.accepted("(ab|c)*", 3), "- c ab cc abc cab ccc");
        });
        document.says("- `slot`: the slot, 0 to 5", () -> {
            for (int slot = 0; slot < 6; slot++) {
                PatternLibrary library = six();
                Check.same("into slot " + slot, library.repeat(slot, 4), 2);
                Check.same("slots then", Use.shelf(library), sixWith(slot, "(b|c)*", 7));
            }
        });
        document.says("- `one`: the slot of the pattern", () -> {
            PatternLibrary library = six();
            library.repeat(2, 0);
            Check.same("slot 0", Use.shelf(library), sixWith(2, "a*", 7));
            library.repeat(2, 5);
            Check.same("slot 5", Use.shelf(library), sixWith(2, "((a|c)+)*", 8));
            library.repeat(2, 2);
            Check.same("the same slot", Use.shelf(library), sixWith(2, "(((a|c)+)*)*", 9));
        });
        document.says("Returns the number of letters of the pattern.", () -> {
            Check.same("of a", Use.library("a").repeat(1, 0), 1);
            Check.same("of a*b+", Use.library("a*b+").repeat(1, 0), 2);
            Check.same("of abcabca", Use.library("abcabca").repeat(0, 0), 7);
        });
        document.says("Throws `IndexOutOfBoundsException` if there is no such slot, for either", () -> {
            Refused.wrongSlots("slot", Refused.NO_INDEX, (library, slot) -> library.repeat(slot, 0));
            Refused.wrongSlots("one", Refused.NO_INDEX, (library, slot) -> library.repeat(0, slot));
            Refused.wrongSlots("slot before a free one", Refused.NO_INDEX, (library, slot) -> library.repeat(slot, 5));
            Refused.wrongSlots("one into a free one", Refused.NO_INDEX, (library, slot) -> library.repeat(5, slot));
        });
        document.says("Throws `NoSuchElementException` if one is free", () -> {
            Refused.call("one", Refused.NO_ELEMENT, Refused::used, library -> library.repeat(0, 5));
            Refused.call("the same", Refused.NO_ELEMENT, Refused::used, library -> library.repeat(5, 5));
            Refused.call("nothing there", Refused.NO_ELEMENT, PatternLibrary::new, library -> library.repeat(0, 0));
            Check.same("a free slot is filled", Refused.used().repeat(5, 0), 2);
        });
        document.says("Throws `IllegalStateException` if the pattern would be too large", () -> {
            String eightSigns = "(((((((a*)+)?)*)+)?)*)+";
            Check.same("to 9 signs", Use.library(eightSigns).repeat(1, 0), 1);
            for (String nineSigns : new String[] {"(" + eightSigns + ")*", "(" + eightSigns + ")?", eightSigns + "b+", "abcab?c" + eightSigns}) {
                Refused.call("of " + nineSigns, Refused.STATE, () -> Use.library(nineSigns), library -> library.repeat(1, 0));
                Refused.call("in place of " + nineSigns, Refused.STATE, () -> Use.library(nineSigns), library -> library.repeat(0, 0));
            }
        });
    }

    private void remove() {
        document.under("Promise 6: remove");
        document.says("Makes a slot free.", () -> {
            PatternLibrary library = six();
            library.remove(3);
            Check.same("slot 3", Use.shelf(library), sixWith(3, "-", 6));
            Check.same("it is free", library.hasPattern(3), false);
            Use.define(library, 3, "bca");
            Check.same("slot 3 again", Use.shelf(library), sixWith(3, "bca", 7));
        });
        document.says("- `slot`: the slot, 0 to 5", () -> {
            for (int slot = 0; slot < 6; slot++) {
                PatternLibrary library = six();
                Check.same("remove " + slot, library.remove(slot), 5);
                Check.same("without slot " + slot, Use.shelf(library), sixWith(slot, "-", 6));
            }
        });
        document.says("Returns the number of patterns afterwards.", () -> {
            PatternLibrary library = six();
            for (int slot = 5; slot >= 0; slot--) {
                Check.same("remove " + slot, library.remove(slot), slot);
            }
        });
        document.says("Throws `IndexOutOfBoundsException` if there is no such slot",
            () -> Refused.wrongSlots("remove", Refused.NO_INDEX, PatternLibrary::remove));
        document.says("Throws `NoSuchElementException` if the slot is free", () -> {
            Refused.call("remove 5", Refused.NO_ELEMENT, Refused::used, library -> library.remove(5));
            Refused.call("remove 0 of none", Refused.NO_ELEMENT, PatternLibrary::new, library -> library.remove(0));
            PatternLibrary library = six();
            library.remove(0);
            Check.thrown("remove it twice", Refused.NO_ELEMENT, () -> library.remove(0));
        });
    }

    private static PatternLibrary eightWords() {
        return Use.samples(Use.library("a"), "a", "b", "c", "ab", "bc", "ca", "abc", "abcabcab");
    }

    private void addWord() {
        document.under("Promise 7: addWord");
        document.says("Adds the word that the buffer contains to the sample words.", () -> {
            PatternLibrary library = Use.samples(Use.library("a"), "b");
            Use.type(library, "cab").addWord();
            Check.same("cab", Use.shelf(library), "a - - - - - \"b\" \"cab\" 1 put");
            Use.type(library, "cab").addWord();
            Check.same("cab again", Use.shelf(library), "a - - - - - \"b\" \"cab\" \"cab\" 1 put");
        });
        document.says("The buffer is empty afterwards, also if an exception is thrown.", () -> {
            PatternLibrary library = Use.samples(new PatternLibrary(), "ab");
            Check.same("after a word", library.clearBuffer(), 0);
            Check.thrown("no word", Refused.ARGUMENT, () -> Use.type(library, "abd").addWord());
            Check.same("after no word", library.clearBuffer(), 0);
            Check.thrown("9 letters", Refused.ARGUMENT, () -> Use.type(library, "abcabcabc").addWord());
            Check.same("after 9 letters", library.clearBuffer(), 0);
            PatternLibrary full = eightWords();
            Check.thrown("a ninth word", Refused.STATE, () -> Use.type(full, "ab").addWord());
            Check.same("after a ninth word", full.clearBuffer(), 0);
        });
        document.says("Returns the number of the sample word.", () -> {
            PatternLibrary library = new PatternLibrary();
            for (int index = 0; index < 8; index++) {
                Check.same("word " + index, Use.type(library, "a").addWord(), index);
            }
            library.removeWord(3);
            Check.same("word 7 again", Use.type(library, "a").addWord(), 7);
        });
        document.says("Throws `IllegalArgumentException` if the buffer does not consist of 1 to 8 letters a, b and c", () -> {
            Check.same("1 letter", Use.type(new PatternLibrary(), "c").addWord(), 0);
            Check.same("8 letters", Use.type(new PatternLibrary(), "abcabcab").addWord(), 0);
            String[] texts = {"", "abcabcabc", "c".repeat(60), "`", "d", "A", " ", "a ", " a", "abcabcad", "dbcabcab", "a|b", "(a)", "a*", "1"};
            for (String text : texts) {
                Supplier<PatternLibrary> made = () -> Refused.typed(Refused.used(), text);
                Refused.call("addWord of " + text, Refused.ARGUMENT, made, PatternLibrary::addWord, PatternLibrary::clearBuffer);
                Supplier<PatternLibrary> full = () -> Use.type(eightWords(), text);
                Refused.call("a ninth " + text, Refused.ARGUMENT, full, PatternLibrary::addWord, PatternLibrary::clearBuffer);
            }
            PatternLibrary untold = new PatternLibrary();
            Check.thrown("addWord of d", Refused.ARGUMENT, () -> Use.type(untold, "d").addWord());
            Check.thrown("stores no error position", Refused.NO_ELEMENT, untold::errorPosition);
        });
        document.says("Throws `IllegalStateException` if there are 8 sample words", () -> {
            for (String text : new String[] {"a", "abcabcab"}) {
                Supplier<PatternLibrary> full = () -> Use.type(eightWords(), text);
                Refused.call("a ninth " + text, Refused.STATE, full, PatternLibrary::addWord, PatternLibrary::clearBuffer);
            }
            PatternLibrary library = eightWords();
            library.removeWord(0);
            Check.same("an eighth again", Use.type(library, "cc").addWord(), 7);
            Check.thrown("a ninth again", Refused.STATE, () -> Use.type(library, "cc").addWord());
        });
    }

    private void removeWord() {
        document.under("Promise 8: removeWord");
        document.says("Removes a sample word.", () -> {
            PatternLibrary library = Use.samples(new PatternLibrary(), "a", "b", "c", "ab");
            library.removeWord(1);
            Check.same("without b", Use.shelf(library), "- - - - - - \"a\" \"c\" \"ab\" 0 put");
            library.removeWord(0);
            Check.same("without a", Use.shelf(library), "- - - - - - \"c\" \"ab\" 0 put");
            library.removeWord(1);
            Check.same("without ab", Use.shelf(library), "- - - - - - \"c\" 0 put");
        });
        document.says("- `index`: the number of the sample word", () -> {
            String[] words = {"a", "b", "c", "ab", "bc", "ca", "abc", "abcabcab"};
            for (int index = 0; index < 8; index++) {
                PatternLibrary library = eightWords();
                library.removeWord(index);
                String due = "a - - - - - \"" + String.join("\" \"", words) + "\" 1 put";
                Check.same("removeWord " + index, Use.shelf(library), due.replace(" \"" + words[index] + "\"", ""));
            }
        });
        document.says("Returns the number of sample words afterwards.", () -> {
            PatternLibrary library = eightWords();
            for (int left = 7; left >= 0; left--) {
                Check.same("removeWord", library.removeWord(0), left);
                Check.same("wordCount", library.wordCount(), left);
            }
        });
        document.says("Throws `IndexOutOfBoundsException` if there is no such sample word", () -> {
            Refused.wrongSamples("removeWord", PatternLibrary::removeWord);
            Check.same("the last one", Refused.used().removeWord(1), 1);
            Refused.call("removeWord 8 of 8", Refused.NO_INDEX, ChangeSentences::eightWords, library -> library.removeWord(8));
            Check.same("removeWord 7 of 8", eightWords().removeWord(7), 7);
        });
    }
}
