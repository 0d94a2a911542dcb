/** Tests for the sentences of promises 21 to 34: counting, automata, and comparing patterns. */
final class AutomatonSentences {
    private final Sentences document;
    private final Queries queries;

    AutomatonSentences(Sentences document) {
        this.document = document;
        this.queries = new Queries(document);
    }

    void tell() {
        document.under("Promise 21: countWords");
        document.says("Returns the number of words of a length that a pattern accepts, by counting for each state.",
            () -> counted(PatternLibrary::countWords));
        counting(PatternLibrary::countWords);
        document.under("Promise 22: countWordsByListing");
        document.says("Returns the same number as countWords, by trying all words of the length.",
            () -> counted(PatternLibrary::countWordsByListing));
        counting(PatternLibrary::countWordsByListing);
        shortestLength();
        states();
        smallest();
        isFinite();
        isUniversal();
        equivalence();
        isIncluded();
        differenceLength();
        slotByStates();
    }

    private static void counted(Refused.PairQuery query) {
        counts(query, "(a|b|c)*", "1 3 9 27 81 243 729");
        counts(query, "(a|b|c)+", "0 3 9 27 81 243 729");
        counts(query, "a*b*", "1 2 3 4 5 6 7");
        counts(query, "(ab|c)*", "1 1 2 3 5 8 13");
        counts(query, "a|a", "0 1 0 0 0 0 0");
        counts(query, "abcabc", "0 0 0 0 0 0 1");
        counts(query, "abcabca", "0 0 0 0 0 0 0");
        counts(query, "a?", "1 1 0 0 0 0 0");
        Queries.leaves(library -> query.of(library, 0, 3));
    }

    private static void counts(Refused.PairQuery query, String pattern, String dues) {
        PatternLibrary library = Use.library(Queries.MOST_STATES, pattern);
        query.of(library, 0, 6);
        StringBuilder counts = new StringBuilder();
        for (int length = 0; length <= 6; length++) {
            counts.append(query.of(library, 1, length)).append(' ');
        }
        Check.same("of " + pattern, counts.toString().trim(), dues);
    }

    private void counting(Refused.PairQuery query) {
        queries.slot((library, slot) -> query.of(library, slot, 2), 0, 9);
        document.says("- `length`: the length, 0 to 6", () -> {
            PatternLibrary library = Use.library("a*b*");
            Check.same("length 0", query.of(library, 0, 0), 1);
            Check.same("length 6", query.of(library, 0, 6), 7);
            Check.thrown("length -1", Refused.ARGUMENT, () -> query.of(library, 0, -1));
            Check.thrown("length 7", Refused.ARGUMENT, () -> query.of(library, 0, 7));
        });
        document.says("Returns the number.", () -> {
            Check.same("no word", query.of(Use.library("ab"), 0, 1), 0);
            Check.same("no letters", query.of(Use.library("ab"), 0, 0), 0);
            Check.same("all words", query.of(Use.library("(a|b|c)*"), 0, 6), 729);
        });
        queries.noPattern((library, slot) -> query.of(library, slot, 2));
        document.says("Throws `IllegalArgumentException` if the length is out of range", () -> {
            for (int length : new int[] {-1, 7, 8, Integer.MIN_VALUE, Integer.MAX_VALUE}) {
                Refused.call("length " + length, Refused.ARGUMENT, Refused::used, library -> query.of(library, 0, length));
                Check.thrown("in a free slot " + length, Refused.NO_ELEMENT, () -> query.of(Refused.used(), 5, length));
                Check.thrown("in no slot " + length, Refused.NO_ELEMENT, () -> query.of(Refused.used(), 6, length));
            }
        });
    }

    private void shortestLength() {
        document.under("Promise 23: shortestLength");
        Refused.SlotQuery query = PatternLibrary::shortestLength;
        queries.says("Returns the length of the shortest accepted word.", query, "a+b", 2, "abc|ca|ab", 2, "(ab)+c?", 2,
            "aaa|bb|c", 1, "(a|bb)c(aa|b)", 3);
        queries.slot(query, 4, 0);
        queries.says("Returns the length.", query, "a*", 0, "(a?)+", 0, "a", 1, "abcabca", 7, "a+b+c+a+b+c+a+", 7);
        queries.noPattern(query);
    }

    private void states() {
        document.under("Promise 24: stateCount");
        queries.says("Returns the number of states of the automaton.", PatternLibrary::stateCount, "a", 3, "a*", 3, "a|a", 3, "ab|cb", 6,
            "(a|b)*a(a|b)", 6, "(a|b)*(a|b)", 4, "(a|b)*a", 4);
        queries.slot(PatternLibrary::stateCount, 6, 4);
        // The last two are among the patterns with the most states.
        queries.says("Returns the number.", PatternLibrary::stateCount, "c", 3, "abcabca", 9, "(a|b|c)+", 4, "(aaa)*(aaaa)*", 14,
            "(aaaaaaa?)*", 39, "(a(aaaaaa)+)+", 40);
        queries.noPattern(PatternLibrary::stateCount);
        document.under("Promise 25: acceptingCount");
        queries.says("Returns the number of accepting states of the automaton.", PatternLibrary::acceptingCount, "a", 1, "a*", 2, "a|a", 1,
            "ab|cb", 2, "(a|b)*a(a|b)", 2, "(a|b)*(a|b)", 2, "(a|b)*a", 1, "aa|a", 2);
        queries.slot(PatternLibrary::acceptingCount, 1, 4);
        queries.says("Returns the number.", PatternLibrary::acceptingCount, "abcabca", 1, "(a|b|c)+", 3, "(a|b|c)*", 4,
            "a?b?c?a?b?c?a?", 8, "(aaa)*(aaaa)*", 10);
        queries.noPattern(PatternLibrary::acceptingCount);
    }

    private void smallest() {
        document.under("Promise 26: smallestCount");
        smallest("Returns the number of states of the smallest automaton, by dividing the states into classes again and again.",
            PatternLibrary::smallestCount);
        document.under("Promise 27: smallestCountByPairs");
        smallest("Returns the same number as smallestCount, by marking pairs of states that a word tells apart.",
            PatternLibrary::smallestCountByPairs);
    }

    private void smallest(String sentence, Refused.SlotQuery query) {
        queries.says(sentence, query, "a", 3, "a*", 2, "a|a", 3, "ab|cb", 4, "(a|b)*a(a|b)", 5, "(a|b)*(a|b)", 3, "(a|b)*a", 3,
            "((a|b)(a|b))*", 3, "(aa)*|(aaa)*", 7, "(a|b)*a(a|b)(a|b)", 9);
        queries.slot(query, 6, 1);
        queries.says("Returns the number.", query, "(a|b|c)*", 1, "(a*b*c*)*", 1, "(a|b|c)+", 2, "abcabca", 9);
        queries.noPattern(query);
    }

    private void isFinite() {
        document.under("Promise 28: isFinite");
        queries.says("Returns whether a pattern accepts only finitely many words.", PatternLibrary::isFinite, "abc|ab?", true, "(a|b)?(c?b)?", true,
            "((a?)?)?", true, "ab+c", false, "((a?)?)+", false, "a|b|(ca)*", false, "a(b(c?)*)?", false, "abcabc(a*)", false, "(a+)bcabca", false);
        queries.slot(PatternLibrary::isFinite, true, false);
        queries.says("Returns true if it does.", PatternLibrary::isFinite, "a", true, "abcabca", true, "a*", false, "a+", false, "a?", true);
        queries.noPattern(PatternLibrary::isFinite);
    }

    private void isUniversal() {
        document.under("Promise 29: isUniversal");
        queries.says("Returns whether a pattern accepts all words of the letters a, b and c.", PatternLibrary::isUniversal, "(a*b*c*)*", true,
            "((a|b|c)+)?", true, "(a|b|c|ab)*", true, "(c*|b?|a+)+", true, "(a|b|c)+", false, "(a|b)*", false, "a*b*c*", false,
            "(aa|b|c|a)*a", false, "(ab?|b?|c)(a|b|c)", false, "(aa|b|c)*", false);
        queries.slot(PatternLibrary::isUniversal, false, true);
        queries.says("Returns true if it does.", PatternLibrary::isUniversal, "(a|b|c)*", true, "(b|c)*", false);
        queries.noPattern(PatternLibrary::isUniversal);
    }

    private void equivalence() {
        document.under("Promise 30: areEquivalent");
        equivalence("Returns whether two patterns accept the same words, by following pairs of states.", PatternLibrary::areEquivalent);
        document.under("Promise 31: areEquivalentBySmallest");
        equivalence("Returns the same as areEquivalent, by comparing the smallest automata.", PatternLibrary::areEquivalentBySmallest);
    }

    private void equivalence(String sentence, Refused.PairQuery query) {
        // In the first three pairs the smallest automata differ in nothing but what is accepting, or where one step leads.
        queries.saysOfPairs(sentence, query, "(aa)*", "a(aa)*", false, "a", "a?", false, "a*b", "a|b", false, "(a|b)*", "(a*b*)*", true,
            "a(ba)*", "(ab)*a", true, "a+", "aa*", true, "a?", "(a?)?", true, "(a|b)*", "(a|b)+", false, "(a|b)+", "(a|b)*", false,
            "abcabca", "abcabcb", false, "(abcabca)+", "abcabca", false, "ab", "ac", false, "ab", "bb", false, "a", "ab?", false,
            "a*", "b*", false, "a(a|b)", "a(b|c)", false);
        queries.slot((library, slot) -> query.of(library, slot, 5), false, true);
        queries.other(query, 5, false, true, true);
        queries.saysOfPairs("Returns true if they do.", query, "a|b", "b|a", true, "a|b", "b|c", false);
        queries.noPatterns(query);
    }

    private void isIncluded() {
        document.under("Promise 32: isIncluded");
        Refused.PairQuery query = PatternLibrary::isIncluded;
        queries.saysOfPairs("Returns whether another pattern accepts all words that a pattern accepts.", query, "ab", "a(b|c)", true,
            "a(b|c)", "ab", false, "a*", "(a|b)*", true, "(a|b)*", "a*", false, "a+", "a*", true, "a*", "a+", false, "a", "b", false,
            "a+", "aa*", true, "ab?", "bc", false, "(aaaa)*", "(aa)*", true, "(aa)*", "(aaaa)*", false);
        queries.slot((library, slot) -> library.isIncluded(slot, 0), true, false);
        queries.other(query, 2, false, true, true);
        queries.saysOfPairs("Returns true if it does.", query, "b", "b|c", true, "b|c", "b", false);
        queries.noPatterns(query);
    }

    private void differenceLength() {
        document.under("Promise 33: differenceLength");
        Refused.PairQuery query = PatternLibrary::differenceLength;
        queries.saysOfPairs("Returns the length of the shortest word that exactly one of two patterns accepts.", query, "(aa)*", "(aaa)*", 2,
            "(aaa)*", "(aaaa)*", 3, "c|bb", "b|cc", 1, "ca|cb", "cb|ca|ba", 2, "abcabca", "abcabcb", 7, "a*", "a+", 0, "a+", "a*", 0,
            "(aa|aaa)*", "(a|aaa)*", 1, "a*b", "a*", 0,
            "(abcabca)+", "abcabca", 14, "(aaaaaaa)*", "(aaaaaaa)?", 14);
        queries.slot((library, slot) -> library.differenceLength(slot, 5), 0, -1);
        queries.other(query, 2, 1, 0, -1);
        queries.saysOfPairs("Returns the length, or -1 if the patterns are equivalent.", query, "a*(aa)?", "a*", -1, "a|b", "b|a", -1, "a?", "a", 0,
            "(aaa)*", "(aaa)*(aaaa)*", 4, "a?a?a?a?a?a?a", "a+", 8, "(a(aaa)*)?", "(a(aaaaa)?)?", 4);
        queries.noPatterns(query);
    }

    private void slotByStates() {
        document.under("Promise 34: slotByStates");
        document.says("Returns a slot that holds a pattern by its rank: fewer states of the smallest automaton first, then fewer letters, then "
            + "lower slot.", () -> {
                // The smallest automata have 5, 3, 2, 3, 3 and 2 states.
                ranked("2 5 1 4 3 0", "abc", "a", "c*", "b|b|b", "c", "b*");
                ranked("5 4 3 2 1 0", "abcabc", "abcab", "abca", "abc", "ab", "a");
                ranked("0 1 2 3 4 5", "a", "b", "c", "a", "b", "c");
                ranked("3 1 0 2", "aa*a*", "aa*", "aa*a*", "a+");
                // More letters, but fewer states.
                ranked("1 0", "a", "(a|b|c)*");
                ranked("1 0", "ab", "a|b|c|a|b");
                Queries.leaves(library -> library.slotByStates(0));
            });
        document.says("- `rank`: the rank, starting at 0", () -> {
            PatternLibrary library = Use.library(null, "ab", null, null, "a");
            Check.same("rank 0", library.slotByStates(0), 4);
            Check.same("rank 1", library.slotByStates(1), 1);
            Check.thrown("rank -1", Refused.NO_ELEMENT, () -> library.slotByStates(-1));
            Check.thrown("rank 2", Refused.NO_ELEMENT, () -> library.slotByStates(2));
        });
        document.says("Returns the slot.", () -> {
            for (int slot = 0; slot < 6; slot++) {
                PatternLibrary library = new PatternLibrary();
                Use.define(library, slot, "a");
                Check.same("the only one", library.slotByStates(0), slot);
            }
        });
        document.says("Throws `NoSuchElementException` if there is no such rank", () -> {
            for (int rank : new int[] {-1, 2, 5, 6, Integer.MIN_VALUE, Integer.MAX_VALUE}) {
                Refused.call("rank " + rank + " of two", Refused.NO_ELEMENT, Refused::used, library -> library.slotByStates(rank));
            }
            Check.same("rank 1 of two", Refused.used().slotByStates(1), 0);
            Refused.call("rank 0 of none", Refused.NO_ELEMENT, PatternLibrary::new, library -> library.slotByStates(0));
            PatternLibrary full = Use.library("a", "a", "a", "a", "a", "a");
            Check.same("rank 5 of six", full.slotByStates(5), 5);
            Check.thrown("rank 6 of six", Refused.NO_ELEMENT, () -> full.slotByStates(6));
        });
    }

    private static void ranked(String dues, String... patterns) {
        PatternLibrary library = Use.library(patterns);
        StringBuilder slots = new StringBuilder();
        for (int rank = 0; rank < patterns.length; rank++) {
            slots.append(library.slotByStates(rank)).append(' ');
        }
        Check.same("ranks of " + String.join(", ", patterns), slots.toString().trim(), dues);
        Check.thrown("one rank more", Refused.NO_ELEMENT, () -> library.slotByStates(patterns.length));
    }
}
