/** Tests for the sentences of promises 35 to 45: sample words, figures, and the line. */
final class FigureSentences {
    private final Sentences document;
    private final Queries queries;

    FigureSentences(Sentences document) {
        this.document = document;
        this.queries = new Queries(document);
    }

    void tell() {
        wordCount();
        wordLength();
        wordLetter();
        definedTotal();
        meanLetters();
        acceptedShare();
        isConsistent();
        formatPattern();
        formatShortest();
        formatDifference();
        lineChar();
    }

    private void wordCount() {
        document.under("Promise 35: wordCount");
        document.says("Returns the number of sample words.", () -> {
            PatternLibrary library = Use.samples(new PatternLibrary(), "a", "b");
            Check.same("of two", library.wordCount(), 2);
            library.removeWord(0);
            Check.same("after removeWord", library.wordCount(), 1);
            library.undo();
            Check.same("after undo", library.wordCount(), 2);
            Use.run(library, "word a;word b;cut 0");
            Check.same("after run", library.wordCount(), 3);
            Queries.leaves(PatternLibrary::wordCount);
        });
        document.says("Returns the number.", () -> {
            PatternLibrary library = new PatternLibrary();
            for (int count = 0; count < 8; count++) {
                Check.same("of " + count, library.wordCount(), count);
                Use.samples(library, "a");
            }
            Check.same("of 8", library.wordCount(), 8);
            Check.thrown("a ninth", Refused.STATE, () -> Use.samples(library, "a"));
            Check.same("of 8 still", library.wordCount(), 8);
        });
    }

    private void wordLength() {
        document.under("Promise 36: wordLength");
        document.says("Returns the length of a sample word.", () -> {
            PatternLibrary library = Use.samples(new PatternLibrary(), "ab", "abcab");
            Check.same("of ab", library.wordLength(0), 2);
            Check.same("of abcab", library.wordLength(1), 5);
            library.removeWord(0);
            Check.same("of abcab, now 0", library.wordLength(0), 5);
            Queries.leaves(used -> used.wordLength(0));
        });
        document.says("- `index`: the number of the sample word", () -> {
            PatternLibrary library = Use.samples(new PatternLibrary(), "abcabcab", "abcabca", "abcabc", "abcab", "abca", "abc", "ab", "a");
            for (int index = 0; index < 8; index++) {
                Check.same("word " + index, library.wordLength(index), 8 - index);
            }
            Check.thrown("word -1", Refused.NO_INDEX, () -> library.wordLength(-1));
            Check.thrown("word 8", Refused.NO_INDEX, () -> library.wordLength(8));
        });
        document.says("Returns the number of letters.", () -> {
            Check.same("of 1", Use.samples(new PatternLibrary(), "c").wordLength(0), 1);
            Check.same("of 8", Use.samples(new PatternLibrary(), "cccccccc").wordLength(0), 8);
        });
        document.says("Throws `IndexOutOfBoundsException` if there is no such sample word", () -> {
            Refused.wrongSamples("wordLength", PatternLibrary::wordLength);
            Check.same("the last one", Refused.used().wordLength(1), 1);
            PatternLibrary removed = Refused.used();
            removed.removeWord(1);
            Check.thrown("a removed one", Refused.NO_INDEX, () -> removed.wordLength(1));
        });
    }

    private void wordLetter() {
        document.under("Promise 37: wordLetter");
        document.says("Returns a letter of a sample word.", () -> {
            PatternLibrary library = Use.samples(new PatternLibrary(), "cab", "b");
            Check.same("word 0", "" + library.wordLetter(0, 0) + library.wordLetter(0, 1) + library.wordLetter(0, 2), "cab");
            Check.same("word 1", library.wordLetter(1, 0), 'b');
            Queries.leaves(used -> used.wordLetter(0, 0));
        });
        document.says("- `index`: the number of the sample word", () -> {
            PatternLibrary library = Use.samples(new PatternLibrary(), "a", "b", "c", "a", "b", "c", "a", "b");
            for (int index = 0; index < 8; index++) {
                Check.same("word " + index, library.wordLetter(index, 0), "abcabcab".charAt(index));
            }
            Check.thrown("word -1", Refused.NO_INDEX, () -> library.wordLetter(-1, 0));
            Check.thrown("word 8", Refused.NO_INDEX, () -> library.wordLetter(8, 0));
        });
        document.says("- `place`: the place of the letter, starting at 0", () -> {
            PatternLibrary library = Use.samples(new PatternLibrary(), "a", "abcabcac");
            for (int place = 0; place < 8; place++) {
                Check.same("place " + place, library.wordLetter(1, place), "abcabcac".charAt(place));
            }
            Check.thrown("place -1", Refused.NO_INDEX, () -> library.wordLetter(1, -1));
            Check.thrown("place 8", Refused.NO_INDEX, () -> library.wordLetter(1, 8));
        });
        document.says("Returns the letter.", () -> {
            for (char letter : "abc".toCharArray()) {
                Check.same("letter", Use.samples(new PatternLibrary(), "" + letter).wordLetter(0, 0), letter);
            }
        });
        document.says("Throws `IndexOutOfBoundsException` if there is no such sample word, or no such place", () -> {
            Refused.wrongSamples("word", (library, index) -> library.wordLetter(index, 0));
            for (int place : new int[] {-1, 2, 8, Integer.MIN_VALUE, Integer.MAX_VALUE}) {
                Refused.call("place " + place + " of ab", Refused.NO_INDEX, Refused::used, library -> library.wordLetter(0, place));
            }
            Refused.call("place 1 of c", Refused.NO_INDEX, Refused::used, library -> library.wordLetter(1, 1));
            Refused.call("neither", Refused.NO_INDEX, Refused::used, library -> library.wordLetter(2, 2));
            Check.same("the last place", Refused.used().wordLetter(0, 1), 'b');
        });
    }

    private void definedTotal() {
        document.under("Promise 38: definedTotal");
        document.says("Returns how often a pattern has been put into a slot so far.", () -> {
            PatternLibrary library = Use.library("a", "b");
            Check.same("by define", library.definedTotal(), 2);
            Use.define(library, 0, "a");
            Check.same("by define of the same", library.definedTotal(), 3);
            library.unite(2, 0, 1);
            library.concatenate(2, 0, 1);
            library.repeat(2, 2);
            Check.same("by unite, concatenate and repeat", library.definedTotal(), 6);
            library.remove(2);
            Use.samples(library, "a");
            library.removeWord(0);
            Check.same("not by others", library.definedTotal(), 6);
            Check.same("run", Use.run(library, "set 3=a;or 3=3,3;then 3=3,3;star 3=3;word a;cut 0;drop 3"), 7);
            Check.same("by set, or, then and star", library.definedTotal(), 10);
            putsRefused(library);
            library.undo();
            Check.same("after undo", library.definedTotal(), 6);
        });
        document.says("Returns the number.", () -> {
            PatternLibrary library = new PatternLibrary();
            Check.same("of none", library.definedTotal(), 0);
            Use.define(library, 5, "c");
            Check.same("of one", library.definedTotal(), 1);
            library.save();
            for (int count = 2; count <= 20; count++) {
                library.unite(0, 5, 5);
                Check.same("of " + count, library.definedTotal(), count);
            }
            library.restore();
            Check.same("of the saved copy", library.definedTotal(), 1);
            Queries.leaves(PatternLibrary::definedTotal);
        });
    }

    private static void putsRefused(PatternLibrary library) {
        Check.thrown("define", Refused.STATE, () -> Use.define(library, 0, "abcabcab"));
        Check.thrown("unite", Refused.NO_ELEMENT, () -> library.unite(0, 0, 2));
        Check.thrown("concatenate", Refused.NO_INDEX, () -> library.concatenate(0, 0, 6));
        Check.thrown("repeat", Refused.NO_ELEMENT, () -> library.repeat(0, 2));
        Check.thrown("run", Refused.STATE, () -> Use.run(library, "set 3=a;set 4=a;drop 5"));
        Check.same("not by refused calls", library.definedTotal(), 10);
    }

    private void meanLetters() {
        document.under("Promise 39: meanLetters");
        document.says("Returns the mean number of letters of the patterns: the sum, converted to double, divided by the number of patterns.", () -> {
            Check.same("of 2, 3, 1 and 2", Use.library("ab", null, "abc", "a*", null, "cc").meanLetters(), 2.0);
            Check.same("of 2, 1 and 2", Use.library("ab", "a", "bc").meanLetters(), 5.0 / 3);
            Check.same("of six", Use.library("ab", "a", "bc", "b*", "c|c|c|c", "abc").meanLetters(), 13.0 / 6);
            PatternLibrary removed = Use.library("abc", "ab");
            removed.remove(0);
            Check.same("of those that are there", removed.meanLetters(), 2.0);
            Queries.leaves(PatternLibrary::meanLetters);
        });
        document.says("Returns the mean.", () -> {
            Check.same("the least", Use.library(null, null, null, null, null, "a").meanLetters(), 1.0);
            Check.same("the most", Use.library("abcabca", "abcabca", "abcabca", "abcabca", "abcabca", "abcabca").meanLetters(), 7.0);
            Check.same("a half", Use.library("a", "ab").meanLetters(), 1.5);
        });
        document.says("Throws `ArithmeticException` if all slots are free", () -> {
            Refused.call("of none", Refused.ARITHMETIC, PatternLibrary::new, PatternLibrary::meanLetters);
            PatternLibrary library = Use.samples(Use.library("a"), "a");
            Check.same("of one", library.meanLetters(), 1.0);
            library.remove(0);
            Check.thrown("of none again", Refused.ARITHMETIC, library::meanLetters);
        });
    }

    private void acceptedShare() {
        document.under("Promise 40: acceptedShare");
        document.says("Returns the number of accepted sample words, converted to float, divided by the number of sample words.", () -> {
            PatternLibrary library = Use.samples(Use.library("a*b", "c+"), "aab", "ba", "b");
            Check.same("2 of 3", library.acceptedShare(0), 2f / 3);
            Use.samples(library, "cc", "a", "b", "ca");
            Check.same("3 of 7", library.acceptedShare(0), 3f / 7);
            Check.same("1 of 7", library.acceptedShare(1), 1f / 7);
            Queries.leaves(used -> used.acceptedShare(0));
        });
        queries.slot(PatternLibrary::acceptedShare, 0.5f, 1f);
        document.says("Returns the share.", () -> {
            PatternLibrary library = Use.samples(Use.library("c*", "a"), "c");
            Check.same("all of one", library.acceptedShare(0), 1f);
            Check.same("none of one", library.acceptedShare(1), 0f);
            Use.samples(library, "c", "cc", "c", "c", "c", "c", "cccccccc");
            Check.same("all of 8", library.acceptedShare(0), 1f);
            Check.same("none of 8", library.acceptedShare(1), 0f);
        });
        queries.noPattern(PatternLibrary::acceptedShare);
        document.says("Throws `ArithmeticException` if there are no sample words", () -> {
            Refused.call("without words", Refused.ARITHMETIC, () -> Use.library("a"), library -> library.acceptedShare(0));
            Check.thrown("after a free slot", Refused.NO_ELEMENT, () -> Use.library("a").acceptedShare(1));
            Check.thrown("after no slot", Refused.NO_ELEMENT, () -> Use.library("a").acceptedShare(6));
            PatternLibrary removed = Use.samples(Use.library("a"), "a");
            removed.removeWord(0);
            Check.thrown("without the last word", Refused.ARITHMETIC, () -> removed.acceptedShare(0));
        });
    }

    private void isConsistent() {
        document.under("Promise 41: isConsistent");
        document.says("Checks all patterns: smallestCount and smallestCountByPairs agree, countWords and countWordsByListing agree for the length "
            + "3, the patterns accept exactly the same sample words by states and by spans, and areEquivalent and areEquivalentBySmallest agree "
            + "for each pattern and the next one in the order of slots.", () -> {
                Check.same("of nothing", new PatternLibrary().isConsistent(), true);
                PatternLibrary library = Use.library("(a|b)*a(a|b)(a|c)", null, "(a*)*", "a*", null, "((ab?)+|c)?");
                Use.samples(library, "aab", "abcabcab", "aaaaaaaa", "c", "ab", "a", "aa", "b");
                Check.same("of four", library.isConsistent(), true);
                Queries.leaves(PatternLibrary::isConsistent);
            });
        document.says("Returns true if all these checks succeed.", () -> {
            Check.same("of one", Use.library("a").isConsistent(), true);
            Check.same("of words alone", Use.samples(new PatternLibrary(), "a").isConsistent(), true);
            PatternLibrary full = Use.library("abcabca", "(a*b+c?)*(a*b+c?)+a?", "a?b?c?a?b?c?a?", "(a|b)*a(a|b)(a|b)", "(a|b)*a(a|b)(a|b)", "c");
            Use.samples(full, "abcabca", "a", "b", "c", "aba", "abcabcab", "cc", "aaa");
            Check.same("of all that there can be", full.isConsistent(), true);
        });
    }

    private static void formatted(String text, String due) {
        PatternLibrary library = Use.library("a", text);
        library.formatShortest(0);
        Check.same("length of " + text, library.formatPattern(1), due.length());
        Check.same("line of " + text, Use.line(library), due);
    }

    private void formatPattern() {
        document.under("Promise 42: formatPattern");
        document.says("Formats a pattern into the line, replacing the previous line, without parentheses where the pattern accepts its parts in "
            + "the same order without them: only a pattern with several branches is in parentheses if it is a factor, and only an atom that is "
            + "not a letter is in parentheses before \"*\", \"+\" or \"?\".", FigureSentences::parentheses);
        document.says("Examples are \"a(b|c)*\" and \"(a*)*\".", () -> {
            formatted("a(b|c)*", "a(b|c)*");
            formatted("(a*)*", "(a*)*");
        });
        queries.slot(PatternLibrary::formatPattern, 4, 8);
        document.says("Returns the length of the line.", () -> {
            Check.same("of c", Use.library("((c))").formatPattern(0), 1);
            Check.same("of abcabca", Use.library("(abc)(a)((bca))").formatPattern(0), 7);
            String longest = "(((((((((a|b|c|a|b|c|a)+)*)?)+)*)?)+)*)?";
            Check.same("of the longest", Use.library(longest).formatPattern(0), longest.length());
        });
        queries.noPattern(PatternLibrary::formatPattern);
    }

    private static void parentheses() {
        for (String text : new String[] {"a", "abc", "a|b", "a*b+c?", "(ab)*", "(a|b)+", "(a|b)c", "c(a|b)", "((a|b)c)?", "(a+)?b", "ab|(a|b)c|c*"}) {
            formatted(text, text);
        }
        formatted("(a)", "a");
        formatted("((b))", "b");
        formatted("(ab)", "ab");
        formatted("(a|b)", "a|b");
        formatted("(ab)c", "abc");
        formatted("a(bc)", "abc");
        formatted("a(b(c))", "abc");
        formatted("a|(bc)", "a|bc");
        formatted("a|(b|c)", "a|b|c");
        formatted("(a|b)|c", "a|b|c");
        formatted("(a)*", "a*");
        formatted("((a))+", "a+");
        formatted("(a*)b", "a*b");
        formatted("(a*)", "a*");
        formatted("((ab))?", "(ab)?");
        formatted("((a|b))*", "(a|b)*");
        formatted("((a|b)*)", "(a|b)*");
        formatted("((a|b)*)*", "((a|b)*)*");
        formatted("(a|(b))?c", "(a|b)?c");
        formatted("(a|b)(c|(a|b))", "(a|b)(c|a|b)");
        formatted("(((a|b)c|a)(b))c", "((a|b)c|a)bc");
        formatted("a((b|c))", "a(b|c)");
        formatted("a(b|c)a", "a(b|c)a");
        PatternLibrary library = Use.library("a|b", "ab");
        library.formatPattern(0);
        library.formatPattern(1);
        Check.same("the previous line is replaced", Use.line(library), "ab");
    }

    private static void shortest(String pattern, String due) {
        PatternLibrary library = Use.library("abc", pattern);
        library.formatPattern(0);
        Check.same("length of " + pattern, library.formatShortest(1), due.length());
        Check.same("line of " + pattern, Use.line(library), due);
    }

    private void formatShortest() {
        document.under("Promise 43: formatShortest");
        document.says("Formats the shortest accepted word into the line, replacing the previous line; of several such words the first one in the "
            + "order of the alphabet.", () -> {
                shortest("b", "b");
                shortest("aa|b", "b");
                shortest("b|a", "a");
                shortest("cb|bc|ca", "bc");
                shortest("(c|b)+a", "ba");
                shortest("aaa|bb|cc", "bb");
                shortest("ac|ab", "ab");
                shortest("(b|a)(c|b)", "ab");
                shortest("(c|ab)(b|a)", "ca");
                shortest("a+b*c", "ac");
            });
        queries.slot(PatternLibrary::formatShortest, 4, 0);
        document.says("Returns the length of the line.", () -> {
            shortest("a*", "");
            shortest("(a?b?)+", "");
            shortest("a", "a");
            shortest("c+b+a+c+b+a+c+", "cbacbac");
        });
        queries.noPattern(PatternLibrary::formatShortest);
    }

    private static void difference(String one, String other, String due) {
        for (boolean back : new boolean[] {false, true}) {
            PatternLibrary library = Use.library("abc", back ? other : one, back ? one : other, Queries.MOST_STATES);
            for (int before = 0; before <= 3; before++) {
                library.formatDifference(before, 3);
                library.formatPattern(before);
                Check.same("length of " + one + " and " + other, library.formatDifference(1, 2), due.length());
                Check.same("line of " + one + " and " + other, Use.line(library), due);
            }
        }
    }

    private void formatDifference() {
        document.under("Promise 44: formatDifference");
        document.says("Formats the shortest word that exactly one of two patterns accepts into the line, replacing the previous line; of several "
            + "such words the first one in the order of the alphabet.", () -> {
                difference("a", "b", "a");
                difference("c|b|a", "a", "b");
                difference("aab|aba", "ab", "ab");
                difference("bca|bcb", "bcb|bcc", "bca");
                difference("b*", "b*(c|b)*", "c");
                difference("(aa)*", "(aaa)*", "aa");
                difference("ca|cb", "cb|ca|ba", "ba");
                difference("c|bb", "b|cc", "b");
                difference("abcabca", "abcabcb", "abcabca");
                difference("a+", "a*", "");
                difference("a?a?a?a?a?a?a", "a+", "aaaaaaaa");
                difference("(abcabca)+", "abcabca", "abcabcaabcabca");
            });
        document.says("The line is empty if the patterns are equivalent.", () -> {
            difference("a*", "(a*)*", "");
            difference("(a|b)*", "(a*b*)*", "");
            PatternLibrary library = Use.library("ab");
            library.formatPattern(0);
            Check.same("length for the same", library.formatDifference(0, 0), 0);
            Check.thrown("line for the same", Refused.NO_INDEX, () -> library.lineChar(0));
        });
        queries.slot((library, slot) -> library.formatDifference(slot, 1), 1, 0);
        queries.other(PatternLibrary::formatDifference, 2, 1, 0, 0);
        document.says("Returns the length of the line.", () -> {
            difference("a", "a?", "");
            difference("ab", "abc", "ab");
            difference("(aaa)*", "(aaa)*(aaaa)*", "aaaa");
        });
        queries.noPatterns(PatternLibrary::formatDifference);
    }

    private void lineChar() {
        document.under("Promise 45: lineChar");
        document.says("Returns a character of the line, which is empty at first.", () -> {
            PatternLibrary library = Use.library("a|c", "b");
            Check.thrown("at first", Refused.NO_INDEX, () -> library.lineChar(0));
            library.formatPattern(0);
            Check.same("of a|c", Use.line(library), "a|c");
            Use.type(library, "b");
            library.define(0);
            library.remove(0);
            library.save();
            library.restore();
            Check.same("of a|c, after changes", Use.line(library), "a|c");
            Check.thrown("a refused formatPattern", Refused.NO_ELEMENT, () -> library.formatPattern(0));
            Check.same("of a|c still", Use.line(library), "a|c");
            Queries.leaves(used -> used.lineChar(0));
        });
        document.says("- `index`: the index, starting at 0", () -> {
            String text = "a(b|c)*";
            PatternLibrary library = Use.library(text);
            library.formatPattern(0);
            for (int index = 0; index < text.length(); index++) {
                Check.same("index " + index, library.lineChar(index), text.charAt(index));
            }
        });
        document.says("Returns the character.", () -> {
            PatternLibrary library = Use.library("(a|b)?c+");
            library.formatPattern(0);
            Check.same("the first one", library.lineChar(0), '(');
            Check.same("the last one", library.lineChar(7), '+');
        });
        document.says("Throws `IndexOutOfBoundsException` if the index is negative or not less than the length of the line", () -> {
            for (int index : new int[] {-1, 3, 4, Integer.MIN_VALUE, Integer.MAX_VALUE}) {
                Refused.call("index " + index + " of a*b", Refused.NO_INDEX, Refused::used, library -> library.lineChar(index));
            }
            Check.same("the last index", Refused.used().lineChar(2), 'b');
            Refused.call("index 0 of no line", Refused.NO_INDEX, PatternLibrary::new, library -> library.lineChar(0));
            PatternLibrary library = Use.library("abc", "a*");
            library.formatPattern(0);
            library.formatPattern(1);
            Check.same("a shorter line", library.lineChar(1), '*');
            Check.thrown("behind a shorter line", Refused.NO_INDEX, () -> library.lineChar(2));
            library.formatShortest(1);
            Check.thrown("an empty line", Refused.NO_INDEX, () -> library.lineChar(0));
        });
    }
}
