/** Tests for the sentences of promises 9 to 20: slots, letters, and words that patterns accept. */
final class PatternSentences {
    private static final String LONGEST = "abcabcabcabc";

    private final Sentences document;
    private final Queries queries;

    PatternSentences(Sentences document) {
        this.document = document;
        this.queries = new Queries(document);
    }

    void tell() {
        patternCount();
        hasPattern();
        letterCount();
        acceptsEmpty();
        canBegin();
        canEnd();
        canBeAdjacent();
        document.under("Promise 16: matches");
        document.says("Returns whether a pattern accepts the word that the buffer contains, by following the states of the automaton.",
            () -> accepted(PatternLibrary::matches));
        document.says("The buffer is kept.", () -> kept(PatternLibrary::matches));
        matching(PatternLibrary::matches);
        document.under("Promise 17: matchesBySpans");
        document.says("Returns the same as matches, by finding for each part of the pattern which spans of the word it accepts.", () -> {
            accepted(PatternLibrary::matchesBySpans);
            kept(PatternLibrary::matchesBySpans);
        });
        matching(PatternLibrary::matchesBySpans);
        longestPrefix();
        acceptsWord();
        acceptedWords();
    }

    private void patternCount() {
        document.under("Promise 9: patternCount");
        document.says("Returns the number of slots that hold a pattern.", () -> {
            PatternLibrary library = Use.library("a", null, "b", null, null, "a");
            Check.same("of three", library.patternCount(), 3);
            Use.define(library, 0, "c");
            Check.same("of replaced ones", library.patternCount(), 3);
            library.unite(1, 0, 2);
            Check.same("of a united one", library.patternCount(), 4);
            library.remove(0);
            Check.same("after remove", library.patternCount(), 3);
            library.undo();
            Check.same("after undo", library.patternCount(), 4);
            Queries.leaves(PatternLibrary::patternCount);
        });
        document.says("Returns the number.", () -> {
            PatternLibrary library = new PatternLibrary();
            for (int count = 0; count < 6; count++) {
                Check.same("of " + count, library.patternCount(), count);
                Use.define(library, 5 - count, "a");
            }
            Check.same("of all slots", library.patternCount(), 6);
        });
    }

    private void hasPattern() {
        document.under("Promise 10: hasPattern");
        document.says("Returns whether a slot holds a pattern.", () -> {
            PatternLibrary library = Use.library(null, "a");
            Check.same("free", library.hasPattern(0), false);
            Check.same("held", library.hasPattern(1), true);
            library.remove(1);
            Check.same("made free", library.hasPattern(1), false);
            Queries.leaves(used -> used.hasPattern(0));
        });
        document.says("- `slot`: the slot, 0 to 5", () -> {
            for (int slot = 0; slot < 6; slot++) {
                PatternLibrary library = new PatternLibrary();
                Use.define(library, slot, "a");
                for (int other = 0; other < 6; other++) {
                    Check.same("slot " + other + " with " + slot, library.hasPattern(other), other == slot);
                }
            }
        });
        document.says("Returns true if it does.", () -> {
            Check.same("it does", Use.library("a").hasPattern(0), true);
            Check.same("it does not", new PatternLibrary().hasPattern(0), false);
        });
        document.says("Throws `IndexOutOfBoundsException` if there is no such slot",
            () -> Refused.wrongSlots("hasPattern", Refused.NO_INDEX, PatternLibrary::hasPattern));
    }

    private void letterCount() {
        document.under("Promise 11: letterCount");
        Refused.SlotQuery query = PatternLibrary::letterCount;
        queries.says("Returns the number of letters of a pattern.", query, "a", 1, "(a*)+", 1, "a|a", 2, "a(b|c)*a?", 4);
        queries.slot(query, 4, 3);
        queries.says("Returns the number.", query, "c", 1, "abcabca", 7, "(a*b+c?)*(a*b+c?)+a?", 7);
        queries.noPattern(query);
    }

    private void acceptsEmpty() {
        document.under("Promise 12: acceptsEmpty");
        Refused.SlotQuery query = PatternLibrary::acceptsEmpty;
        queries.says("Returns whether a pattern accepts the empty word.", query, "a*", true, "a?", true, "a+", false, "(a?)+", true,
            "a*b*", true, "a*b", false, "ab*", false, "a|b*", true, "a*|b", true, "a|b", false, "(a|b)+", false, "((ab)*)+", true);
        queries.slot(query, false, true);
        queries.says("Returns true if it does.", query, "c?", true, "c", false);
        queries.noPattern(query);
    }

    private void canBegin() {
        document.under("Promise 13: canBegin");
        queries.says("Returns whether some accepted word begins with a letter.", PatternSentences::beginning, "a*b", "ab", "(a|c)?b+c", "abc",
            "(a|c)+b", "ac", "cab", "c", "a?b?c?", "abc", "ba|bc", "b");
        queries.slot((library, slot) -> library.canBegin(slot, 'b'), false, true);
        letter((library, letter) -> library.canBegin(0, letter), "(a|c)b");
        queries.says("Returns true if one does.", (library, slot) -> library.canBegin(slot, 'b'), "ba", true, "ab", false);
        queries.noPattern((library, slot) -> library.canBegin(slot, 'a'));
        document.says("Throws `IllegalArgumentException` if there is no such letter",
            () -> Refused.wrongLetters("canBegin", (library, slot, letter) -> library.canBegin(slot, (char) letter)));
    }

    private void canEnd() {
        document.under("Promise 14: canEnd");
        queries.says("Returns whether some accepted word ends with a letter.", PatternSentences::end, "ab*", "ab", "c(a|b)?", "abc",
            "ba+", "a", "(abc)*", "c", "a?b?c?", "abc", "ab|cb", "b");
        queries.slot((library, slot) -> library.canEnd(slot, 'b'), false, true);
        letter((library, letter) -> library.canEnd(0, letter), "b(a|c)");
        queries.says("Returns true if one does.", (library, slot) -> library.canEnd(slot, 'b'), "ab", true, "ba", false);
        queries.noPattern((library, slot) -> library.canEnd(slot, 'a'));
        document.says("Throws `IllegalArgumentException` if there is no such letter",
            () -> Refused.wrongLetters("canEnd", (library, slot, letter) -> library.canEnd(slot, (char) letter)));
    }

    private interface LetterQuery {
        boolean of(PatternLibrary library, char letter);
    }

    /** The letters a and c are taken with the answer true, b with false, and those next to them are refused. */
    private void letter(LetterQuery query, String pattern) {
        document.says("- `letter`: the letter, 'a' to 'c'", () -> letterEdges(query, pattern));
    }

    private static void letterEdges(LetterQuery query, String pattern) {
        PatternLibrary library = Use.library(pattern);
        Check.same("a", query.of(library, 'a'), true);
        Check.same("b", query.of(library, 'b'), false);
        Check.same("c", query.of(library, 'c'), true);
        Check.thrown("the one before a", Refused.ARGUMENT, () -> query.of(library, '`'));
        Check.thrown("d", Refused.ARGUMENT, () -> query.of(library, 'd'));
    }

    private static String beginning(PatternLibrary library, int slot) {
        StringBuilder letters = new StringBuilder();
        for (char letter : "abc".toCharArray()) {
            letters.append(library.canBegin(slot, letter) ? letter : "");
        }
        return letters.toString();
    }

    private static String end(PatternLibrary library, int slot) {
        StringBuilder letters = new StringBuilder();
        for (char letter : "abc".toCharArray()) {
            letters.append(library.canEnd(slot, letter) ? letter : "");
        }
        return letters.toString();
    }

    private static String adjacent(PatternLibrary library, int slot) {
        StringBuilder pairs = new StringBuilder();
        for (String pair : "aa ab ac ba bb bc ca cb cc".split(" ")) {
            pairs.append(library.canBeAdjacent(slot, pair.charAt(0), pair.charAt(1)) ? " " + pair : "");
        }
        return pairs.toString().trim();
    }

    private void canBeAdjacent() {
        document.under("Promise 15: canBeAdjacent");
        queries.says("Returns whether a letter stands directly after another one in some accepted word.", PatternSentences::adjacent,
            "(ab)*c?a+", "aa ab ba bc ca", "a", "", "a|b|c", "", "a*", "aa", "ab?c", "ab ac bc", "(a|b)(c|a)", "aa ac ba bc", "(abc)+", "ab bc ca");
        queries.slot((library, slot) -> library.canBeAdjacent(slot, 'b', 'a'), false, true);
        document.says("- `first`: the letter, 'a' to 'c'", () -> letterEdges((library, letter) -> library.canBeAdjacent(0, letter, 'b'), "(a|c)b"));
        document.says("- `second`: the letter after it, 'a' to 'c'",
            () -> letterEdges((library, letter) -> library.canBeAdjacent(0, 'b', letter), "b(a|c)"));
        queries.says("Returns true if it does.", (library, slot) -> library.canBeAdjacent(slot, 'a', 'b'), "ab", true, "ba", false);
        queries.noPattern((library, slot) -> library.canBeAdjacent(slot, 'a', 'b'));
        document.says("Throws `IllegalArgumentException` if there is no such letter, for either", () -> {
            Refused.wrongLetters("first", (library, slot, letter) -> library.canBeAdjacent(slot, (char) letter, 'a'));
            Refused.wrongLetters("second", (library, slot, letter) -> library.canBeAdjacent(slot, 'a', (char) letter));
            Refused.wrongLetters("both", (library, slot, letter) -> library.canBeAdjacent(slot, (char) letter, (char) letter));
        });
    }

    private static void accepted(Refused.SlotQuery query) {
        String[] dues = {"a(b|c)* abcb", "a*", "(a*)*", "(a?)+", "(ab|a)(bc|c) abc", "(ab|a)(bc|c) abbc", "(ab|a)(bc|c) ac", "((a*b)+|c)? aabab",
            "(abc)+ abcabcabcabc", "(abc)+b* abcabcabcabc", "c(a*b) cab", "a*b*c* aabbbccccccc", "(a|b|c)* cbacbacbacba"};
        String[] others = {"a(b|c)* abca", "a(b|c)*", "(a|b)+", "(ab|a)(bc|c) abcc", "((a*b)+|c)? cb", "c(a*b) c", "(abc)+ abcabcabcabb",
            "a b", "a aa", "abcabca abcabc"};
        for (String due : dues) {
            Check.same(due, matched(query, due), true);
        }
        for (String other : others) {
            Check.same(other, matched(query, other), false);
        }
    }

    /** Of a pattern and a word, with a space between them. */
    private static Object matched(Refused.SlotQuery query, String patternAndWord) {
        String[] parts = patternAndWord.split(" ");
        return query.of(Use.type(Use.library("b", "c", parts[0]), parts.length > 1 ? parts[1] : ""), 2);
    }

    private static void kept(Refused.SlotQuery query) {
        for (String word : new String[] {"", "a", "cab", "abcabcab"}) {
            PatternLibrary library = Use.type(Use.library("a*"), word);
            query.of(library, 0);
            query.of(library, 0);
            Check.same("after " + word, library.append('c'), word.length() + 1);
            Check.same("characters", Check.answer(library::addWord), word.length() < 8 ? "0" : "throws IllegalArgumentException");
            Check.same("are kept", word.length() < 8 ? Use.word(library, 0) : word + "c", word + "c");
        }
        PatternLibrary wrong = Use.type(Use.library("a*"), "ab|c");
        Check.thrown("a wrong word", Refused.ARGUMENT, () -> query.of(wrong, 0));
        Check.same("is kept, too", wrong.define(1), 3);
        Check.same("with all characters", Use.format(wrong, 1), "ab|c");
        PatternLibrary longest = Use.type(Use.library("a*"), LONGEST);
        query.of(longest, 0);
        Check.same("12 letters are kept", longest.clearBuffer(), 12);
        Queries.leaves(library -> query.of(library, 0));
    }

    private void matching(Refused.SlotQuery query) {
        queries.slot(query, false, true);
        document.says("Returns true if it does.", () -> {
            Check.same("it does", matched(query, "ab* abb"), true);
            Check.same("it does not", matched(query, "ab* aba"), false);
        });
        queries.noPattern(query);
        wrongBuffer(query);
    }

    private void wrongBuffer(Refused.SlotQuery query) {
        document.says("Throws `IllegalArgumentException` if the buffer does not consist of 0 to 12 letters a, b and c", () -> {
            for (int length = 0; length <= 12; length++) {
                PatternLibrary library = Use.type(Use.library("(a|b|c)*"), LONGEST.substring(length));
                Check.same(length + " letters fewer", Check.answer(() -> query.of(library, 0)).startsWith("throws"), false);
            }
            Refused.wrongBuffers("buffer", query);
        });
    }

    private void longestPrefix() {
        document.under("Promise 18: longestPrefix");
        document.says("Returns the length of the longest prefix of the word in the buffer that a pattern accepts; the empty word and the word "
            + "itself are prefixes, too.", () -> {
                prefix("ab*", "abbc", 3);
                prefix("a*", "bbb", 0);
                prefix("a*", "", 0);
                prefix("a?", "a", 1);
                prefix("(ab)*", "ababa", 4);
                prefix("a|abc", "abb", 1);
                prefix("a|abc", "abc", 3);
                prefix("(a|b|c)*", LONGEST, 12);
                prefix("(abc)*", "abcabcabcabb", 9);
                kept(PatternLibrary::longestPrefix);
            });
        queries.slot(PatternLibrary::longestPrefix, -1, 1);
        document.says("Returns the length, or -1 if no prefix is accepted.", () -> {
            prefix("ab*", "ca", -1);
            prefix("a", "", -1);
            prefix("a+", "baaaaaaaaaaa", -1);
            prefix("abc", "ab", -1);
            prefix("a", "ab", 1);
            prefix("b*", "ca", 0);
        });
        queries.noPattern(PatternLibrary::longestPrefix);
        wrongBuffer(PatternLibrary::longestPrefix);
    }

    private static void prefix(String pattern, String word, int due) {
        PatternLibrary library = Use.type(Use.library("b", pattern), word);
        Check.same("of " + word + " by " + pattern, library.longestPrefix(1), due);
    }

    private void acceptsWord() {
        document.under("Promise 19: acceptsWord");
        document.says("Returns whether a pattern accepts a sample word.", () -> {
            PatternLibrary library = Use.samples(Use.library("b", "a*b"), "aab", "ba", "b", "aaaaaaab");
            boolean[] dues = {true, false, true, true};
            for (int index = 0; index < dues.length; index++) {
                Check.same("word " + index, library.acceptsWord(1, index), dues[index]);
            }
            Queries.leaves(used -> used.acceptsWord(0, 0));
        });
        queries.slot((library, slot) -> library.acceptsWord(slot, 1), false, true);
        document.says("- `index`: the number of the sample word", () -> {
            PatternLibrary library = Use.samples(Use.library("b|cc"), "b", "a", "a", "a", "a", "a", "a", "cc");
            Check.same("word 0", library.acceptsWord(0, 0), true);
            Check.same("word 1", library.acceptsWord(0, 1), false);
            Check.same("word 7", library.acceptsWord(0, 7), true);
            library.removeWord(1);
            Check.same("word 6 was 7", library.acceptsWord(0, 6), true);
            Check.thrown("word 7 is none", Refused.NO_INDEX, () -> library.acceptsWord(0, 7));
        });
        document.says("Returns true if it does.", () -> {
            Check.same("it does", Use.samples(Use.library("c+"), "cc").acceptsWord(0, 0), true);
            Check.same("it does not", Use.samples(Use.library("c+"), "cb").acceptsWord(0, 0), false);
        });
        queries.noPattern((library, slot) -> library.acceptsWord(slot, 0));
        document.says("Throws `IndexOutOfBoundsException` if there is no such sample word", () -> {
            Refused.wrongSamples("acceptsWord", (library, index) -> library.acceptsWord(0, index));
            Check.same("the last one", Refused.used().acceptsWord(0, 1), false);
            Check.thrown("after no slot", Refused.NO_ELEMENT, () -> Refused.used().acceptsWord(6, 2));
            Check.thrown("after a free slot", Refused.NO_ELEMENT, () -> Refused.used().acceptsWord(5, -1));
        });
    }

    private void acceptedWords() {
        document.under("Promise 20: acceptedWords");
        document.says("Returns how many sample words a pattern accepts.", () -> {
            PatternLibrary library = Use.samples(Use.library("a*b", "c"), "aab", "ba", "b", "aab");
            Check.same("three", library.acceptedWords(0), 3);
            library.removeWord(0);
            Check.same("two", library.acceptedWords(0), 2);
            Queries.leaves(used -> used.acceptedWords(0));
        });
        queries.slot(PatternLibrary::acceptedWords, 1, 2);
        document.says("Returns the number.", () -> {
            PatternLibrary library = Use.library("a+", "b");
            for (int count = 0; count <= 8; count++) {
                Check.same("of " + count, library.acceptedWords(0), count);
                Check.same("of none", library.acceptedWords(1), 0);
                Use.samples(library, count < 8 ? new String[] {"aaaaaaaa".substring(count)} : new String[0]);
            }
        });
        queries.noPattern(PatternLibrary::acceptedWords);
    }
}
