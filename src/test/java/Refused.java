import java.util.NoSuchElementException;
import java.util.function.Consumer;
import java.util.function.Supplier;

/** Calls that are refused: what they throw, and how they leave the library. */
final class Refused {
    static final Class<IndexOutOfBoundsException> NO_INDEX = IndexOutOfBoundsException.class;
    static final Class<NoSuchElementException> NO_ELEMENT = NoSuchElementException.class;
    static final Class<IllegalArgumentException> ARGUMENT = IllegalArgumentException.class;
    static final Class<IllegalStateException> STATE = IllegalStateException.class;
    static final Class<ArithmeticException> ARITHMETIC = ArithmeticException.class;
    static final int[] WRONG_SLOTS = {-1, 6, Integer.MIN_VALUE, Integer.MAX_VALUE};
    static final char[] WRONG_LETTERS = {'`', 'd', 'A', 'B', 'C', ' ', '0', (char) 0, (char) 65535};

    interface Query {
        Object of(PatternLibrary library);
    }

    interface SlotQuery {
        Object of(PatternLibrary library, int slot);
    }

    interface PairQuery {
        Object of(PatternLibrary library, int slot, int other);
    }

    private Refused() {
    }

    /** The call throws that exception, and leaves the library as it was. */
    static void call(String what, Class<? extends Exception> due, Supplier<PatternLibrary> made, Query call) {
        call(what, due, made, call, library -> { });
    }

    /** The call throws that exception, and leaves the library as these effects alone would leave it. */
    static void call(String what, Class<? extends Exception> due, Supplier<PatternLibrary> made, Query call,
            Consumer<PatternLibrary> effects) {
        PatternLibrary library = made.get();
        Check.thrown(what, due, () -> call.of(library));
        PatternLibrary untouched = made.get();
        effects.accept(untouched);
        Check.same(what + " leaves", Use.everything(library), Use.everything(untouched));
        PatternLibrary again = made.get();
        Check.answer(() -> call.of(again));
        PatternLibrary untouchedAgain = made.get();
        effects.accept(untouchedAgain);
        Check.same(what + " leaves in the buffer", Use.bufferedWord(again), Use.bufferedWord(untouchedAgain));
    }

    /** A library with changes that can be undone, a saved copy, a line, an error, a failure and a buffer. */
    static PatternLibrary used() {
        PatternLibrary library = Use.library("a*b", "(a|b)c");
        Use.samples(library, "ab", "c");
        library.save();
        Check.answer(() -> Use.define(library, 2, "ab)"));
        Check.answer(() -> Use.run(library, "cut 0;cut 7"));
        library.remove(1);
        Use.define(library, 1, "c+");
        library.formatPattern(0);
        return Use.type(library, "ba");
    }

    /** Slots that there are not. */
    static void wrongSlots(String what, Class<? extends Exception> due, SlotQuery query) {
        for (int slot : WRONG_SLOTS) {
            call(what + " of slot " + slot, due, Refused::used, library -> query.of(library, slot));
        }
    }

    /** Numbers that none of two sample words has. */
    static void wrongSamples(String what, SlotQuery query) {
        for (int index : new int[] {-1, 2, 8, Integer.MIN_VALUE, Integer.MAX_VALUE}) {
            call(what + " of word " + index, NO_INDEX, Refused::used, library -> query.of(library, index));
        }
        Check.thrown(what + " of no words", NO_INDEX, () -> query.of(Use.library("a"), 0));
    }

    /** Queries of a pattern throw the same for a slot that there is not and for a free one. */
    static void withoutPattern(String what, SlotQuery query) {
        wrongSlots(what, NO_ELEMENT, query);
        call(what + " of a free slot", NO_ELEMENT, Refused::used, library -> query.of(library, 5));
        Check.thrown(what + " of a new library", NO_ELEMENT, () -> query.of(new PatternLibrary(), 0));
        PatternLibrary freed = Use.library("a");
        freed.remove(0);
        Check.thrown(what + " of a slot made free", NO_ELEMENT, () -> query.of(freed, 0));
    }

    /** Letters that there are not, and which exception comes first if there is no pattern either. */
    static void wrongLetters(String what, PairQuery query) {
        for (char letter : WRONG_LETTERS) {
            String of = what + " of letter " + (int) letter;
            call(of, ARGUMENT, Refused::used, library -> query.of(library, 0, letter));
            Check.thrown(of + " in a free slot", NO_ELEMENT, () -> query.of(used(), 5, letter));
            Check.thrown(of + " in no slot", NO_ELEMENT, () -> query.of(used(), 6, letter));
        }
    }

    /** Buffers that are no word of 0 to 12 letters, and which exception comes first if there is no pattern either. */
    static void wrongBuffers(String what, SlotQuery query) {
        String most = "abcabcabcabc";
        String[] texts = {most + "a", "`", "d", "A", " ", "a ", " a", "a d", "a|b", "(a)", "a*", "1", most.substring(1) + "~", "c".repeat(60)};
        for (String text : texts) {
            Supplier<PatternLibrary> made = () -> typed(used(), text);
            call(what + " of " + text, ARGUMENT, made, library -> query.of(library, 0));
            Check.thrown(what + " of " + text + " in a free slot", NO_ELEMENT, () -> query.of(made.get(), 5));
            Check.thrown(what + " of " + text + " in no slot", NO_ELEMENT, () -> query.of(made.get(), -1));
        }
    }

    /** The library with this text alone in the buffer. */
    static PatternLibrary typed(PatternLibrary library, String text) {
        library.clearBuffer();
        return Use.type(library, text);
    }
}
