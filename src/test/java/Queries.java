/** The sentences that queries about patterns share, with the same tests for all of them. */
final class Queries {
    // One of those with the most states, so that what was asked before leaves as much as may be left.
    static final String MOST_STATES = "(a(aaaaaa)+)+";

    private final Sentences document;

    Queries(Sentences document) {
        this.document = document;
    }

    /** Six patterns and two sample words, with c in the buffer. */
    static PatternLibrary six() {
        PatternLibrary library = Use.library("abca", "ab?", "b", "c+", "a|b", "(a|b|c)*");
        return Use.type(Use.samples(library, "abca", "c"), "c");
    }

    /** The last slots on both sides are taken, with these answers of six(), and the first ones outside are not. */
    void slot(Refused.SlotQuery query, Object first, Object last) {
        document.says("- `slot`: the slot, 0 to 5", () -> edges(query, first, last));
    }

    /** As slot, with the answers for one slot of six() and the first or the last other, and for any slot and the same. */
    void other(Refused.PairQuery query, int one, Object first, Object last, Object same) {
        document.says("- `other`: the slot of another pattern, or the same", () -> {
            edges((library, slot) -> query.of(library, one, slot), first, last);
            for (int slot = 0; slot < 6; slot++) {
                Check.same("the same slot " + slot, query.of(six(), slot, slot), same);
            }
        });
    }

    private static void edges(Refused.SlotQuery query, Object first, Object last) {
        Check.same("slot 0", query.of(six(), 0), first);
        Check.same("slot 5", query.of(six(), 5), last);
        Refused.call("slot -1", Refused.NO_ELEMENT, Queries::six, library -> query.of(library, -1));
        Refused.call("slot 6", Refused.NO_ELEMENT, Queries::six, library -> query.of(library, 6));
    }

    /** The answers for patterns, whatever was asked before; and the query leaves everything as it is. */
    void says(String sentence, Refused.SlotQuery query, Object... patternsAndDues) {
        document.says(sentence, () -> {
            for (int index = 0; index + 1 < patternsAndDues.length; index += 2) {
                String pattern = (String) patternsAndDues[index];
                PatternLibrary library = Use.library("b", null, null, pattern, "(a|b|c)*", MOST_STATES);
                for (int before : new int[] {3, 5, 4, 0}) {
                    query.of(library, before);
                    Check.same("of " + pattern + " after slot " + before, query.of(library, 3), patternsAndDues[index + 1]);
                }
            }
            leaves(library -> query.of(library, 0));
        });
    }

    /** The answers for pairs of patterns, each pair with its due, whatever was asked before. */
    void saysOfPairs(String sentence, Refused.PairQuery query, Object... pairsAndDues) {
        document.says(sentence, () -> {
            for (int index = 0; index + 2 < pairsAndDues.length; index += 3) {
                String one = (String) pairsAndDues[index];
                String other = (String) pairsAndDues[index + 1];
                PatternLibrary library = Use.library("b", one, MOST_STATES, "c*", other);
                for (int before : new int[] {4, 2, 3, 0}) {
                    query.of(library, before, 2);
                    Check.same("of " + one + " and " + other + " after slot " + before, query.of(library, 1, 4), pairsAndDues[index + 2]);
                }
            }
            leaves(library -> query.of(library, 0, 1));
        });
    }

    /** The call is answered and leaves everything as it is, the buffer, too. */
    static void leaves(Refused.Query call) {
        PatternLibrary library = Refused.used();
        Check.same("it is answered", Check.answer(() -> call.of(library)).startsWith("throws"), false);
        Check.same("it leaves everything", Use.everything(library), Use.everything(Refused.used()));
        PatternLibrary again = Refused.used();
        call.of(again);
        Check.same("it leaves the buffer", Use.bufferedWord(again), "ba");
    }

    void noPattern(Refused.SlotQuery query) {
        document.says("Throws `NoSuchElementException` if there is no such slot, or it is free", () -> Refused.withoutPattern("query", query));
    }

    void noPatterns(Refused.PairQuery query) {
        document.says("Throws `NoSuchElementException` if there is no such slot, or it is free, for either", () -> {
            Refused.withoutPattern("slot", (library, slot) -> query.of(library, slot, 0));
            Refused.withoutPattern("other", (library, slot) -> query.of(library, 0, slot));
            Refused.withoutPattern("both", (library, slot) -> query.of(library, slot, slot));
            Refused.call("both, differently", Refused.NO_ELEMENT, Refused::used, library -> query.of(library, 6, 5));
        });
    }
}
