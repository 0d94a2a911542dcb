import java.util.NoSuchElementException;
import java.util.function.Consumer;
import java.util.function.Supplier;

/** The promises of the document one by one: ordinary inputs, the edges it names, and wrong inputs. */
final class PromisesTest {
    private static final Class<IndexOutOfBoundsException> NO_INDEX = IndexOutOfBoundsException.class;
    private static final Class<NoSuchElementException> NO_ELEMENT = NoSuchElementException.class;
    private static final Class<IllegalArgumentException> ARGUMENT = IllegalArgumentException.class;
    private static final Class<IllegalStateException> STATE = IllegalStateException.class;
    private static final Class<ArithmeticException> ARITHMETIC = ArithmeticException.class;
    private static final int[] WRONG_SLOTS = {-1, 6, Integer.MIN_VALUE, Integer.MAX_VALUE};
    private static final char[] WRONG_LETTERS = {'d', '`', 'A', ' ', (char) 0, (char) 65535};

    private interface Query {
        Object of(PatternLibrary library);
    }

    private interface SlotQuery {
        Object of(PatternLibrary library, int slot);
    }

    private interface PairQuery {
        Object of(PatternLibrary library, int slot, int other);
    }

    public static void main(String[] args) {
        creation();
        changes();
        simpleQueries();
        matching();
        counting();
        automata();
        comparisons();
        samplesAndFigures();
        formatting();
        buffer();
        programs();
        undoAndCopies();
        Check.finish("PromisesTest");
    }

    private static void creation() {
        promise1();
    }

    private static void changes() {
        promise2();
        promise2Errors();
        promise3();
        promise4();
        promise5();
        promise6();
        promise7();
        promise8();
    }

    private static void simpleQueries() {
        promise9();
        promise10();
        promise11();
        promise12();
        promise13();
        promise14();
        promise15();
    }

    private static void matching() {
        promises16And17();
        promise18();
        promise19();
        promise20();
    }

    private static void counting() {
        promises21And22();
        promise23();
    }

    private static void automata() {
        promises24And25();
        promises26And27();
        promise28();
        promise29();
    }

    private static void comparisons() {
        promises30And31();
        promise32();
        promise33();
        promise34();
    }

    private static void samplesAndFigures() {
        promise35();
        promise36();
        promise37();
        promise38();
        promise39();
        promise40();
        promise41();
    }

    private static void formatting() {
        promise42();
        promise43();
        promise44();
        promise45();
    }

    private static void buffer() {
        promise46();
        promise47();
    }

    private static void programs() {
        promise48();
        promise48Errors();
        promise48Failures();
        promise49();
        promise50();
    }

    private static void undoAndCopies() {
        promise51();
        promise52();
        promise53();
        promise54();
    }

    /** The call throws that exception, and leaves the library as these effects alone would leave it. */
    private static void fails(String what, Class<? extends Exception> due, Supplier<PatternLibrary> made, Query call,
            Consumer<PatternLibrary> effects) {
        PatternLibrary library = made.get();
        Check.thrown(what, due, () -> call.of(library));
        PatternLibrary untouched = made.get();
        effects.accept(untouched);
        Check.same(what + " leaves", Use.everything(library), Use.everything(untouched));
    }

    private static void fails(String what, Class<? extends Exception> due, Supplier<PatternLibrary> made, Query call) {
        fails(what, due, made, call, library -> { });
    }

    /** A library with changes that can be undone, a saved copy, a line, an error, a failure and a buffer. */
    private static PatternLibrary used() {
        PatternLibrary library = Use.library("a*b", "(a|b)c");
        Use.samples(library, "ab", "c");
        library.save();
        Check.answer(() -> Use.define(library, 2, "ab)"));
        Check.answer(() -> Use.run(library, "cut 0;cut 7"));
        library.remove(1);
        Use.define(library, 1, "c+");
        library.formatPattern(0);
        return Use.type(library, "ba");
    }

    private static void wrongSlots(String what, Class<? extends Exception> due, SlotQuery query) {
        for (int slot : WRONG_SLOTS) {
            fails(what + " of slot " + slot, due, PromisesTest::used, library -> query.of(library, slot));
        }
    }

    /** Queries of a pattern throw the same for a wrong slot and for a free one. */
    private static void needsPattern(String what, SlotQuery query) {
        wrongSlots(what, NO_ELEMENT, query);
        fails(what + " of a free slot", NO_ELEMENT, PromisesTest::used, library -> query.of(library, 5));
        Check.thrown(what + " of a new library", NO_ELEMENT, () -> query.of(new PatternLibrary(), 0));
    }

    private static void needsPatterns(String what, PairQuery query) {
        needsPattern(what, (library, slot) -> query.of(library, slot, 0));
        needsPattern(what + " with other", (library, slot) -> query.of(library, 0, slot));
    }

    private static void promise1() {
        PatternLibrary library = new PatternLibrary();
        for (int slot = 0; slot < 6; slot++) {
            Check.same("new hasPattern " + slot, library.hasPattern(slot), false);
        }
        Check.same("new patternCount", library.patternCount(), 0);
        Check.same("new wordCount", library.wordCount(), 0);
        Check.same("new definedTotal", library.definedTotal(), 0);
        Check.same("new undoableCount", library.undoableCount(), 0);
        Check.same("new clearBuffer", library.clearBuffer(), 0);
        Check.same("new line", Use.line(library), "");
    }

    private static void promise2() {
        PatternLibrary library = new PatternLibrary();
        Check.same("define a(b|c)*", Use.define(library, 0, "a(b|c)*"), 3);
        Check.same("define leaves no buffer", library.clearBuffer(), 0);
        Check.same("define 5", Use.define(library, 5, "a"), 1);
        Check.same("define replaces", Use.define(library, 0, "b"), 1);
        Check.same("replaced", Use.format(library, 0), "b");
        Check.same("7 letters", Use.define(library, 1, "abcabca"), 7);
        Check.same("9 signs", Use.define(library, 1, "((((a*)+)?)*)+b*c+a?(b)*"), 5);
        fails("8 letters", STATE, () -> Use.type(used(), "bcbcba"), library2 -> library2.define(0), PatternLibrary::clearBuffer);
        fails("10 signs", STATE, () -> Use.type(used(), "*((((a*)+)?)*)+b*c+a?(b)*"), library2 -> library2.define(0),
            PatternLibrary::clearBuffer);
        wrongSlots("define", NO_INDEX, PatternLibrary::define);
        fails("wrong slot before wrong buffer", NO_INDEX, () -> Use.type(used(), "|||"), library2 -> library2.define(6));
        PatternLibrary kept = Use.type(used(), "|||");
        Check.thrown("define 6", NO_INDEX, () -> kept.define(6));
        Check.same("define 6 keeps the buffer", kept.clearBuffer(), 5);
    }

    private static void promise2Errors() {
        String[] texts = {"", "*", "|a", ")", "(", "()", "a|", "a**", "a+?", "ab)", "(a", "(a|b", "a(b|)", "a b", "abd", "(a)(", "a|*",
            "(a*b*)**", "((a)", "a;b", "A"};
        int[] dues = {0, 0, 0, 0, 1, 1, 2, 2, 2, 2, 2, 4, 4, 1, 2, 4, 2, 7, 4, 1, 0};
        for (int index = 0; index < texts.length; index++) {
            String text = texts[index];
            PatternLibrary library = Use.library("c");
            Check.thrown("define " + text, ARGUMENT, () -> Use.define(library, 0, text));
            Check.same("error of " + text, library.errorPosition(), dues[index]);
            Check.same("buffer after " + text, library.clearBuffer(), 0);
            Check.same("slot after " + text, Use.shelf(library), "c - - - - - 1 put");
            Check.same("undoable after " + text, library.undoableCount(), 1);
        }
        PatternLibrary library = new PatternLibrary();
        Check.thrown("60 times (", ARGUMENT, () -> Use.define(library, 0, "(".repeat(60)));
        Check.same("error of 60 times (", library.errorPosition(), 60);
        Check.thrown("malformed and too large", ARGUMENT, () -> Use.define(library, 0, "abcabcabcabc)"));
        Check.same("29 parentheses", Use.define(library, 0, "(".repeat(29) + "ab" + ")".repeat(29)), 2);
        Check.thrown("too large", STATE, () -> Use.define(library, 0, "aaaaaaaa"));
        Check.same("too large is not malformed", library.errorPosition(), 12);
        Check.thrown("60 letters", STATE, () -> Use.define(library, 0, "abc".repeat(20)));
    }

    private static void promise3() {
        PatternLibrary library = Use.library("ab|c", "a*", null, "abcab");
        Check.same("unite", library.unite(2, 0, 1), 4);
        Check.same("united", Use.format(library, 2), "ab|c|a*");
        Check.same("unite with itself into itself", library.unite(1, 1, 1), 2);
        Check.same("united with itself", Use.format(library, 1), "a*|a*");
        Check.same("unite to 7", library.unite(4, 3, 1), 7);
        wrongSlots("unite", NO_INDEX, (used, slot) -> used.unite(slot, 0, 1));
        wrongSlots("unite one", NO_INDEX, (used, slot) -> used.unite(0, slot, 1));
        wrongSlots("unite other", NO_INDEX, (used, slot) -> used.unite(0, 1, slot));
        fails("wrong slot before free one", NO_INDEX, PromisesTest::used, used -> used.unite(0, 5, 6));
        fails("unite free", NO_ELEMENT, PromisesTest::used, used -> used.unite(0, 5, 1));
        fails("unite with free", NO_ELEMENT, PromisesTest::used, used -> used.unite(0, 1, 5));
        fails("unite to 8 letters", STATE, () -> Use.library("abca", "abca"), used -> used.unite(2, 0, 1));
        fails("unite to 10 signs", STATE, () -> Use.library("(((a*)*)*)*b*", "a+"), used -> used.unite(2, 0, 0));
        PatternLibrary signs = Use.library("(((a*)*)*)*b*", "((a+)+)+a+");
        Check.same("unite to 9 signs", signs.unite(2, 0, 1), 4);
    }

    private static void promise4() {
        PatternLibrary library = Use.library("a|b", "c*", "abcabc", "a");
        Check.same("concatenate", library.concatenate(4, 0, 1), 3);
        Check.same("concatenated", Use.format(library, 4), "(a|b)c*");
        Check.same("concatenate twice", library.concatenate(1, 1, 1), 2);
        Check.same("concatenated twice", Use.format(library, 1), "c*c*");
        Check.same("concatenate to 7", library.concatenate(5, 2, 3), 7);
        Check.same("in order", Use.format(library, 5), "abcabca");
        wrongSlots("concatenate", NO_INDEX, (used, slot) -> used.concatenate(slot, 0, 1));
        wrongSlots("concatenate one", NO_INDEX, (used, slot) -> used.concatenate(0, slot, 1));
        wrongSlots("concatenate other", NO_INDEX, (used, slot) -> used.concatenate(0, 1, slot));
        fails("wrong slot before free one", NO_INDEX, PromisesTest::used, used -> used.concatenate(7, 5, 5));
        fails("concatenate free", NO_ELEMENT, PromisesTest::used, used -> used.concatenate(0, 5, 1));
        fails("concatenate with free", NO_ELEMENT, PromisesTest::used, used -> used.concatenate(0, 1, 5));
        fails("concatenate to 8 letters", STATE, () -> Use.library("abcabc", "ab"), used -> used.concatenate(0, 0, 1));
        fails("concatenate to 10 signs", STATE, () -> Use.library("(((a*)*)*)*b*"), used -> used.concatenate(1, 0, 0));
    }

    private static void promise5() {
        PatternLibrary library = Use.library("a", "a*", "a|b", "ab");
        Check.same("repeat", library.repeat(4, 0), 1);
        Check.same("repeated letter", Use.format(library, 4), "a*");
        library.repeat(4, 1);
        Check.same("repeated star", Use.format(library, 4), "(a*)*");
        Check.same("repeat in place", library.repeat(2, 2), 2);
        Check.same("repeated bar", Use.format(library, 2), "(a|b)*");
        library.repeat(3, 3);
        Check.same("repeated branch", Use.format(library, 3), "(ab)*");
        wrongSlots("repeat", NO_INDEX, (used, slot) -> used.repeat(slot, 0));
        wrongSlots("repeat one", NO_INDEX, (used, slot) -> used.repeat(0, slot));
        fails("wrong slot before free one", NO_INDEX, PromisesTest::used, used -> used.repeat(6, 5));
        fails("repeat free", NO_ELEMENT, PromisesTest::used, used -> used.repeat(0, 5));
        Check.same("repeat to 9 signs", Use.library("((((((((a*)*)*)*)*)*)*)*)").repeat(1, 0), 1);
        fails("repeat to 10 signs", STATE, () -> Use.library("((((((((a*)*)*)*)*)*)*)*)*"), used -> used.repeat(1, 0));
    }

    private static void promise6() {
        PatternLibrary library = Use.library("a", null, "b", null, null, "c");
        Check.same("remove 2", library.remove(2), 2);
        Check.same("removed", Use.shelf(library), "a - - - - c 3 put");
        Check.same("remove 5", library.remove(5), 1);
        Check.same("remove 0", library.remove(0), 0);
        wrongSlots("remove", NO_INDEX, PatternLibrary::remove);
        fails("remove free", NO_ELEMENT, PromisesTest::used, used -> used.remove(5));
    }

    private static void promise7() {
        PatternLibrary library = new PatternLibrary();
        for (int index = 0; index < 8; index++) {
            Check.same("addWord " + index, Use.type(library, "abcabcab".substring(index)).addWord(), index);
            Check.same("buffer after addWord", library.clearBuffer(), 0);
        }
        Check.same("word 0", Use.word(library, 0), "abcabcab");
        Check.same("word 7", Use.word(library, 7), "b");
        Supplier<PatternLibrary> full = () -> Use.samples(Use.library("a"), "a", "b", "c", "a", "b", "c", "a", "b");
        fails("no ninth word", STATE, () -> Use.type(full.get(), "c"), PatternLibrary::addWord, PatternLibrary::clearBuffer);
        fails("wrong word before ninth", ARGUMENT, () -> Use.type(full.get(), "d"), PatternLibrary::addWord, PatternLibrary::clearBuffer);
        for (String text : new String[] {"d", " a", "ab ", "abcabcab", "(", "A"}) {
            fails("addWord ba" + text, ARGUMENT, () -> Use.type(used(), text), PatternLibrary::addWord, PatternLibrary::clearBuffer);
        }
        fails("addWord nothing", ARGUMENT, () -> Use.library("a"), PatternLibrary::addWord);
        PatternLibrary untold = new PatternLibrary();
        Check.thrown("addWord d", ARGUMENT, () -> Use.type(untold, "d").addWord());
        Check.thrown("addWord stores no error", NO_ELEMENT, untold::errorPosition);
    }

    private static void promise8() {
        PatternLibrary library = Use.samples(new PatternLibrary(), "a", "b", "c", "ab");
        Check.same("removeWord 1", library.removeWord(1), 3);
        Check.same("later ones move", Use.shelf(library), "- - - - - - \"a\" \"c\" \"ab\" 0 put");
        Check.same("removeWord 2", library.removeWord(2), 2);
        Check.same("removeWord 0", library.removeWord(0), 1);
        Check.same("removeWord last", library.removeWord(0), 0);
        Check.thrown("removeWord of none", NO_INDEX, () -> library.removeWord(0));
        for (int index : new int[] {-1, 2, 8, Integer.MIN_VALUE, Integer.MAX_VALUE}) {
            fails("removeWord " + index, NO_INDEX, PromisesTest::used, used -> used.removeWord(index));
        }
    }

    private static void promise9() {
        Check.same("patternCount", Use.library("a", null, "b", null, null, "c").patternCount(), 3);
        Check.same("patternCount 6", Use.library("a", "a", "a", "a", "a", "a").patternCount(), 6);
    }

    private static void promise10() {
        PatternLibrary library = Use.library("a", null, null, null, null, "c");
        Check.same("hasPattern 0", library.hasPattern(0), true);
        Check.same("hasPattern 1", library.hasPattern(1), false);
        Check.same("hasPattern 5", library.hasPattern(5), true);
        wrongSlots("hasPattern", NO_INDEX, PatternLibrary::hasPattern);
    }

    private static void promise11() {
        PatternLibrary library = Use.library("a(b|c)*a?", "c");
        Check.same("letterCount", library.letterCount(0), 4);
        Check.same("letterCount of one", library.letterCount(1), 1);
        needsPattern("letterCount", PatternLibrary::letterCount);
    }

    private static void promise12() {
        String[] accepting = {"a*", "a?", "(a?)+", "a*b*", "a|b*", "(a|b)?", "((ab)*)+"};
        String[] others = {"a", "a+", "a*b", "ab?", "a|b", "(a|b)+", "a?b+"};
        for (String pattern : accepting) {
            Check.same("acceptsEmpty " + pattern, Use.library(pattern).acceptsEmpty(0), true);
        }
        for (String pattern : others) {
            Check.same("acceptsEmpty " + pattern, Use.library(pattern).acceptsEmpty(0), false);
        }
        needsPattern("acceptsEmpty", PatternLibrary::acceptsEmpty);
    }

    private static void letters(String what, String pattern, PairQuery query, String due) {
        PatternLibrary library = Use.library(pattern);
        StringBuilder told = new StringBuilder();
        for (char letter : "abc".toCharArray()) {
            told.append(query.of(library, 0, letter).equals(true) ? letter : '-');
        }
        Check.same(what + " of " + pattern, told.toString(), due);
    }

    private static void wrongLetters(String what, PairQuery query) {
        for (char letter : WRONG_LETTERS) {
            fails(what + " with letter " + (int) letter, ARGUMENT, PromisesTest::used, library -> query.of(library, 0, letter));
            Check.thrown(what + " of a free slot with letter " + (int) letter, NO_ELEMENT, () -> query.of(used(), 5, letter));
        }
    }

    private static void promise13() {
        PairQuery query = (library, slot, letter) -> library.canBegin(slot, (char) letter);
        letters("canBegin", "a*b", query, "ab-");
        letters("canBegin", "(a|c)?b+c", query, "abc");
        letters("canBegin", "(a|c)+b", query, "a-c");
        letters("canBegin", "cab", query, "--c");
        needsPattern("canBegin", (library, slot) -> library.canBegin(slot, 'a'));
        wrongLetters("canBegin", query);
    }

    private static void promise14() {
        PairQuery query = (library, slot, letter) -> library.canEnd(slot, (char) letter);
        letters("canEnd", "ab*", query, "ab-");
        letters("canEnd", "c(a|b)?", query, "abc");
        letters("canEnd", "ba+", query, "a--");
        letters("canEnd", "(abc)*", query, "--c");
        needsPattern("canEnd", (library, slot) -> library.canEnd(slot, 'a'));
        wrongLetters("canEnd", query);
    }

    private static void promise15() {
        PatternLibrary library = Use.library("(ab)*c?a+");
        String due = "aa ab ba bc ca";
        StringBuilder told = new StringBuilder();
        for (String pair : "aa ab ac ba bb bc ca cb cc".split(" ")) {
            if (library.canBeAdjacent(0, pair.charAt(0), pair.charAt(1))) {
                told.append(told.length() == 0 ? "" : " ").append(pair);
            }
        }
        Check.same("canBeAdjacent", told.toString(), due);
        needsPattern("canBeAdjacent", (used, slot) -> used.canBeAdjacent(slot, 'a', 'b'));
        wrongLetters("canBeAdjacent first", (used, slot, letter) -> used.canBeAdjacent(slot, (char) letter, 'a'));
        wrongLetters("canBeAdjacent second", (used, slot, letter) -> used.canBeAdjacent(slot, 'a', (char) letter));
    }

    private static void matching(String pattern, String word, boolean due) {
        PatternLibrary library = Use.type(Use.library(pattern), word);
        Check.same(pattern + " matches " + word, library.matches(0), due);
        Check.same(pattern + " matchesBySpans " + word, library.matchesBySpans(0), due);
        Check.same("buffer is kept", library.clearBuffer(), word.length());
    }

    private static void promises16And17() {
        matching("a(b|c)*", "abcb", true);
        matching("a(b|c)*", "abca", false);
        matching("a(b|c)*", "", false);
        matching("a*", "", true);
        matching("(a*)*", "", true);
        matching("(a?)+", "", true);
        matching("(a|b)+", "", false);
        matching("(ab|a)(bc|c)", "abc", true);
        matching("(ab|a)(bc|c)", "abbc", true);
        matching("(ab|a)(bc|c)", "ac", true);
        matching("(ab|a)(bc|c)", "abcc", false);
        matching("((a*b)+|c)?", "aabab", true);
        matching("((a*b)+|c)?", "cb", false);
        matching("(abc)+", "abcabcabcabc", true);
        matching("(abc)+b*", "abcabcabcabc", true);
        matching("c(a*b)", "c", false);
        matching("c(a*b)", "cab", true);
        matching("(abc)+", "abcabcabcabb", false);
        for (SlotQuery query : new SlotQuery[] {PatternLibrary::matches, PatternLibrary::matchesBySpans}) {
            needsPattern("matches", query);
            wrongBuffers("matches", query);
        }
    }

    private static void wrongBuffers(String what, SlotQuery query) {
        for (String text : new String[] {"d", " ", "(", "a".repeat(11)}) {
            fails(what + " of ba" + text, ARGUMENT, () -> Use.type(used(), text), library -> query.of(library, 0));
            Check.thrown(what + " free before ba" + text, NO_ELEMENT, () -> query.of(Use.type(used(), text), 5));
        }
        Check.same(what + " of 12 letters", Check.answer(() -> query.of(Use.type(used(), "a".repeat(10)), 0)).contains("throws"), false);
    }

    private static void promise18() {
        String[][] dues = {{"ab*", "abbc", "3"}, {"ab*", "ca", "-1"}, {"a*", "bbb", "0"}, {"a*", "", "0"}, {"a", "", "-1"},
            {"(ab)*", "ababa", "4"}, {"a|abc", "abb", "1"}, {"a|abc", "abc", "3"}, {"(a|b|c)*", "abcabcabcabc", "12"}};
        for (String[] due : dues) {
            PatternLibrary library = Use.type(Use.library(due[0]), due[1]);
            Check.same(due[0] + " longestPrefix " + due[1], library.longestPrefix(0), Integer.parseInt(due[2]));
            Check.same("buffer is kept", library.clearBuffer(), due[1].length());
        }
        needsPattern("longestPrefix", PatternLibrary::longestPrefix);
        wrongBuffers("longestPrefix", PatternLibrary::longestPrefix);
    }

    private static void promise19() {
        PatternLibrary library = Use.samples(Use.library("a*b"), "aab", "ba", "b", "aaaaaaab");
        boolean[] dues = {true, false, true, true};
        for (int index = 0; index < dues.length; index++) {
            Check.same("acceptsWord " + index, library.acceptsWord(0, index), dues[index]);
        }
        needsPattern("acceptsWord", (used, slot) -> used.acceptsWord(slot, 0));
        for (int index : new int[] {-1, 2, 8, Integer.MIN_VALUE, Integer.MAX_VALUE}) {
            fails("acceptsWord " + index, NO_INDEX, PromisesTest::used, used -> used.acceptsWord(0, index));
            Check.thrown("acceptsWord free " + index, NO_ELEMENT, () -> used().acceptsWord(5, index));
        }
    }

    private static void promise20() {
        PatternLibrary library = Use.samples(Use.library("a*b", "c"), "aab", "ba", "b", "aab");
        Check.same("acceptedWords", library.acceptedWords(0), 3);
        Check.same("acceptedWords none", library.acceptedWords(1), 0);
        Check.same("acceptedWords without words", Use.library("a").acceptedWords(0), 0);
        needsPattern("acceptedWords", PatternLibrary::acceptedWords);
    }

    private static void promises21And22() {
        Object[][] dues = {{"(a|b|c)*", new int[] {1, 3, 9, 27, 81, 243, 729}}, {"a*b*", new int[] {1, 2, 3, 4, 5, 6, 7}},
            {"a|a", new int[] {0, 1, 0, 0, 0, 0, 0}}, {"(ab|c)*", new int[] {1, 1, 2, 3, 5, 8, 13}}, {"abcabca", new int[7]}};
        for (Object[] due : dues) {
            PatternLibrary library = Use.library((String) due[0]);
            for (int length = 0; length <= 6; length++) {
                Check.same("countWords " + due[0] + " " + length, library.countWords(0, length), ((int[]) due[1])[length]);
                Check.same("countWordsByListing " + length, library.countWordsByListing(0, length), ((int[]) due[1])[length]);
            }
        }
        PairQuery[] queries = {PatternLibrary::countWords, PatternLibrary::countWordsByListing};
        for (PairQuery query : queries) {
            PatternLibrary two = Use.library("(a|b|c)*", "a|b");
            Check.same("words of the first", query.of(two, 0, 1), 3);
            Check.same("words of the second", query.of(two, 1, 1), 2);
            needsPattern("countWords", (library, slot) -> query.of(library, slot, 2));
            for (int length : new int[] {-1, 7, Integer.MIN_VALUE, Integer.MAX_VALUE}) {
                fails("countWords " + length, ARGUMENT, PromisesTest::used, library -> query.of(library, 0, length));
                Check.thrown("countWords free " + length, NO_ELEMENT, () -> query.of(used(), 5, length));
            }
        }
    }

    private static void promise23() {
        String[][] dues = {{"a*", "0"}, {"a+b", "2"}, {"abcabca", "7"}, {"abc|ca|ab", "2"}, {"(ab)+c?", "2"}};
        for (String[] due : dues) {
            Check.same("shortestLength " + due[0], Use.library(due[0]).shortestLength(0), Integer.parseInt(due[1]));
        }
        needsPattern("shortestLength", PatternLibrary::shortestLength);
    }

    private static void figures(String pattern, int states, int accepting, int smallest) {
        PatternLibrary library = Use.library(pattern);
        Check.same("stateCount " + pattern, library.stateCount(0), states);
        Check.same("acceptingCount " + pattern, library.acceptingCount(0), accepting);
        Check.same("smallestCount " + pattern, library.smallestCount(0), smallest);
        Check.same("smallestCountByPairs " + pattern, library.smallestCountByPairs(0), smallest);
    }

    private static void automatonFigures() {
        figures("a", 3, 1, 3);
        // The initial state and {0} are different states, though words lead on from both alike.
        figures("a*", 3, 2, 2);
        figures("(a|b|c)*", 4, 4, 1);
        figures("(a|b|c)+", 4, 3, 2);
        figures("abcabca", 9, 1, 9);
        // The initial state, {0, 1} and the empty set.
        figures("a|a", 3, 1, 3);
        figures("ab|cb", 6, 2, 4);
        // The initial state, {0, 2}, {1, 3} and the empty set.
        figures("(a|b)*(a|b)", 4, 2, 3);
        figures("(a|b)*a", 4, 1, 3);
    }

    private static void promises24And25() {
        automatonFigures();
        needsPattern("stateCount", PatternLibrary::stateCount);
        needsPattern("acceptingCount", PatternLibrary::acceptingCount);
    }

    private static void promises26And27() {
        // The initial state, {0, 2}, {1}, {0, 2, 3}, {1, 4} and the empty set; the first and the third are alike.
        figures("(a|b)*a(a|b)", 6, 2, 5);
        figures("((a|b)(a|b))*", 6, 3, 3);
        needsPattern("smallestCount", PatternLibrary::smallestCount);
        needsPattern("smallestCountByPairs", PatternLibrary::smallestCountByPairs);
    }

    private static void promise28() {
        for (String pattern : new String[] {"a", "abc|ab?", "(a|b)?(c?b)?", "((a?)?)?"}) {
            Check.same("isFinite " + pattern, Use.library(pattern).isFinite(0), true);
        }
        for (String pattern : new String[] {"a*", "ab+c", "((a?)?)+", "a|b|(ca)*", "a(b(c?)*)?"}) {
            Check.same("isFinite " + pattern, Use.library(pattern).isFinite(0), false);
        }
        PatternLibrary two = Use.library("(ab)*", "ab");
        Check.same("isFinite of the first", two.isFinite(0), false);
        Check.same("isFinite of the second", two.isFinite(1), true);
        needsPattern("isFinite", PatternLibrary::isFinite);
    }

    private static void promise29() {
        for (String pattern : new String[] {"(a|b|c)*", "(a*b*c*)*", "((a|b|c)+)?", "(a|b|c|ab)*", "(c*|b?|a+)+"}) {
            Check.same("isUniversal " + pattern, Use.library(pattern).isUniversal(0), true);
        }
        for (String pattern : new String[] {"(a|b|c)+", "(a|b)*", "a*b*c*", "(aa|b|c|a)*a", "(ab?|b?|c)(a|b|c)"}) {
            Check.same("isUniversal " + pattern, Use.library(pattern).isUniversal(0), false);
        }
        needsPattern("isUniversal", PatternLibrary::isUniversal);
    }

    /** Whether they accept the same words, the first is included, the other is, and the first difference, or null. */
    private static void compared(String one, String other, boolean included, boolean includes, String difference) {
        PatternLibrary library = Use.library(one, other);
        String what = " of " + one + " and " + other;
        boolean same = difference == null;
        Check.same("areEquivalent" + what, library.areEquivalent(0, 1), same);
        Check.same("areEquivalent back" + what, library.areEquivalent(1, 0), same);
        Check.same("areEquivalentBySmallest" + what, library.areEquivalentBySmallest(0, 1), same);
        Check.same("areEquivalentBySmallest back" + what, library.areEquivalentBySmallest(1, 0), same);
        Check.same("isIncluded" + what, library.isIncluded(0, 1), included);
        Check.same("isIncluded back" + what, library.isIncluded(1, 0), includes);
        Check.same("differenceLength" + what, library.differenceLength(0, 1), same ? -1 : difference.length());
        Check.same("differenceLength back" + what, library.differenceLength(1, 0), same ? -1 : difference.length());
        Check.same("formatDifference" + what, library.formatDifference(0, 1), same ? 0 : difference.length());
        Check.same("difference" + what, Use.line(library), same ? "" : difference);
        library.formatShortest(0);
        library.formatDifference(1, 0);
        Check.same("difference back" + what, Use.line(library), same ? "" : difference);
        Check.same("areEquivalent to itself", library.areEquivalent(0, 0), true);
        Check.same("areEquivalentBySmallest to itself", library.areEquivalentBySmallest(1, 1), true);
        Check.same("isIncluded in itself", library.isIncluded(0, 0), true);
        Check.same("differenceLength to itself", library.differenceLength(0, 0), -1);
    }

    private static void promises30And31() {
        compared("(a|b)*", "(a*b*)*", true, true, null);
        compared("a(ba)*", "(ab)*a", true, true, null);
        compared("a+", "aa*", true, true, null);
        compared("a?", "(a?)?", true, true, null);
        compared("(a|b)*", "(a|b)+", false, true, "");
        compared("abcabca", "abcabcb", false, false, "abcabca");
        // Their smallest automata differ in nothing but what is accepting.
        compared("(aa)*", "a(aa)*", false, false, "");
        for (PairQuery query : new PairQuery[] {PatternLibrary::areEquivalent, PatternLibrary::areEquivalentBySmallest}) {
            PatternLibrary three = Use.library("a+", "a*", "aa*");
            Check.same("first and second", query.of(three, 0, 1), false);
            Check.same("first and third", query.of(three, 0, 2), true);
            Check.same("second and third", query.of(three, 1, 2), false);
        }
        needsPatterns("areEquivalent", PatternLibrary::areEquivalent);
        needsPatterns("areEquivalentBySmallest", PatternLibrary::areEquivalentBySmallest);
    }

    private static void promise32() {
        compared("ab", "a(b|c)", true, false, "ac");
        compared("a*", "(a|b)*", true, false, "b");
        needsPatterns("isIncluded", PatternLibrary::isIncluded);
    }

    private static void promise33() {
        compared("c|bb", "b|cc", false, false, "b");
        compared("(aa)*", "(aaa)*", false, false, "aa");
        compared("(aaa)*", "(aaaa)*", false, false, "aaa");
        compared("ca|cb", "cb|ca|ba", true, false, "ba");
        compared("a*(aa)?", "a*", true, true, null);
        compared("(a|aaa)*", "(aa|aaa)*", false, true, "a");
        needsPatterns("differenceLength", PatternLibrary::differenceLength);
    }

    private static void promise34() {
        PatternLibrary library = Use.library("abc", "a", "c*", null, "b|b", "a");
        // Smallest automata: abc 5 states, a 3, c* 2, b|b 3.
        int[] dues = {2, 1, 5, 4, 0};
        for (int rank = 0; rank < dues.length; rank++) {
            Check.same("slotByStates " + rank, library.slotByStates(rank), dues[rank]);
        }
        Check.thrown("slotByStates 5", NO_ELEMENT, () -> library.slotByStates(5));
        for (int rank : new int[] {-1, 2, Integer.MIN_VALUE, Integer.MAX_VALUE}) {
            fails("slotByStates " + rank, NO_ELEMENT, PromisesTest::used, used -> used.slotByStates(rank));
        }
        Check.thrown("slotByStates of none", NO_ELEMENT, () -> new PatternLibrary().slotByStates(0));
    }

    private static void promise35() {
        PatternLibrary library = new PatternLibrary();
        for (int count = 1; count <= 8; count++) {
            Use.samples(library, "a");
            Check.same("wordCount", library.wordCount(), count);
        }
        library.removeWord(0);
        Check.same("wordCount after removeWord", library.wordCount(), 7);
    }

    private static void promise36() {
        PatternLibrary library = Use.samples(new PatternLibrary(), "a", "abcabcab");
        Check.same("wordLength 0", library.wordLength(0), 1);
        Check.same("wordLength 1", library.wordLength(1), 8);
        for (int index : new int[] {-1, 2, 8, Integer.MIN_VALUE, Integer.MAX_VALUE}) {
            fails("wordLength " + index, NO_INDEX, PromisesTest::used, used -> used.wordLength(index));
        }
    }

    private static void promise37() {
        PatternLibrary library = Use.samples(new PatternLibrary(), "cab", "b");
        Check.same("wordLetter 0 0", library.wordLetter(0, 0), 'c');
        Check.same("wordLetter 0 1", library.wordLetter(0, 1), 'a');
        Check.same("wordLetter 0 2", library.wordLetter(0, 2), 'b');
        Check.same("wordLetter 1 0", library.wordLetter(1, 0), 'b');
        for (int wrong : new int[] {-1, 2, 8, Integer.MIN_VALUE, Integer.MAX_VALUE}) {
            fails("wordLetter of word " + wrong, NO_INDEX, PromisesTest::used, used -> used.wordLetter(wrong, 0));
            fails("wordLetter at place " + wrong, NO_INDEX, PromisesTest::used, used -> used.wordLetter(0, wrong));
        }
    }

    private static void promise38() {
        PatternLibrary library = Use.library("a", "b");
        Use.define(library, 0, "c");
        library.unite(2, 0, 1);
        library.concatenate(2, 0, 1);
        library.repeat(2, 2);
        Check.same("definedTotal", library.definedTotal(), 6);
        library.remove(2);
        Use.samples(library, "a");
        Check.thrown("repeat", NO_ELEMENT, () -> library.repeat(0, 2));
        Check.same("definedTotal after others", library.definedTotal(), 6);
        Use.run(library, "set 3=a;or 3=3,3;then 3=3,3;star 3=3;word a;drop 3");
        Check.same("definedTotal after run", library.definedTotal(), 10);
        Check.thrown("run", STATE, () -> Use.run(library, "set 3=a;drop 4"));
        Check.same("definedTotal after failed run", library.definedTotal(), 10);
        library.undo();
        Check.same("definedTotal after undo", library.definedTotal(), 6);
    }

    private static void promise39() {
        Check.same("meanLetters", Use.library("ab", null, "abc", "a*", null, "cc").meanLetters(), 2.0);
        Check.same("meanLetters 5/3", Use.library("ab", "a", "bc").meanLetters(), 5.0 / 3);
        fails("meanLetters of none", ARITHMETIC, PatternLibrary::new, PatternLibrary::meanLetters);
    }

    private static void promise40() {
        PatternLibrary library = Use.samples(Use.library("a*b", "c+", "(a|b)*"), "aab", "ba", "b");
        Check.same("acceptedShare 2/3", library.acceptedShare(0), 2f / 3);
        Check.same("acceptedShare 0", library.acceptedShare(1), 0f);
        Check.same("acceptedShare 1", library.acceptedShare(2), 1f);
        needsPattern("acceptedShare", PatternLibrary::acceptedShare);
        fails("acceptedShare without words", ARITHMETIC, () -> Use.library("a"), used -> used.acceptedShare(0));
        Check.thrown("free before without words", NO_ELEMENT, () -> Use.library("a").acceptedShare(1));
    }

    private static void promise41() {
        Check.same("isConsistent new", new PatternLibrary().isConsistent(), true);
        PatternLibrary library = Use.library("(a|b)*a(a|b)(a|c)", null, "(a*)*", "a*", null, "((ab?)+|c)?");
        Use.samples(library, "aab", "abcabcab", "aaaaaaaa", "c", "ab");
        library.formatPattern(2);
        Check.same("isConsistent", library.isConsistent(), true);
        Check.same("isConsistent leaves the line", Use.line(library), "(a*)*");
    }

    private static void formatted(String text, String due) {
        PatternLibrary library = Use.library(text);
        library.formatShortest(0);
        Check.same("formatPattern length of " + text, library.formatPattern(0), due.length());
        Check.same("formatPattern of " + text, Use.line(library), due);
    }

    private static void promise42() {
        formatted("a(b|c)*", "a(b|c)*");
        formatted("(a*)*", "(a*)*");
        formatted("((a))", "a");
        formatted("(((a|b)))", "a|b");
        formatted("(ab)c", "abc");
        formatted("a(bc)", "abc");
        formatted("a|(b|c)", "a|b|c");
        formatted("(a|b)|c", "a|b|c");
        formatted("a|(bc)", "a|bc");
        formatted("(a)*", "a*");
        formatted("((ab))+", "(ab)+");
        formatted("(a|(b))?c", "(a|b)?c");
        formatted("((a|b)c)*", "((a|b)c)*");
        formatted("(a*)(b+)(c?)", "a*b+c?");
        formatted("(a|b)(c|(a|b))", "(a|b)(c|a|b)");
        formatted("((a+)?)*b|c", "((a+)?)*b|c");
        formatted("(((a|b)c|a)(b))c", "((a|b)c|a)bc");
        needsPattern("formatPattern", PatternLibrary::formatPattern);
    }

    private static void promise43() {
        String[][] dues = {{"a*", ""}, {"b|a", "a"}, {"cb|bc|ca", "bc"}, {"abcabca", "abcabca"}, {"(c|b)+a", "ba"}, {"aaa|bb|cc", "bb"}};
        for (String[] due : dues) {
            PatternLibrary library = Use.library(due[0]);
            library.formatPattern(0);
            Check.same("formatShortest length of " + due[0], library.formatShortest(0), due[1].length());
            Check.same("formatShortest of " + due[0], Use.line(library), due[1]);
        }
        needsPattern("formatShortest", PatternLibrary::formatShortest);
    }

    private static void promise44() {
        compared("c|b|a", "a", false, true, "b");
        compared("aab|aba", "ab", false, false, "ab");
        compared("bca|bcb", "bcb|bcc", false, false, "bca");
        compared("b*", "b*(c|b)*", true, false, "c");
        needsPatterns("formatDifference", PatternLibrary::formatDifference);
    }

    private static void promise45() {
        PatternLibrary library = Use.library("a|c");
        Check.thrown("lineChar of no line", NO_INDEX, () -> library.lineChar(0));
        library.formatPattern(0);
        Check.same("lineChar 0", library.lineChar(0), 'a');
        Check.same("lineChar 1", library.lineChar(1), '|');
        Check.same("lineChar 2", library.lineChar(2), 'c');
        for (int index : new int[] {-1, 3, 4, Integer.MIN_VALUE, Integer.MAX_VALUE}) {
            fails("lineChar " + index, NO_INDEX, PromisesTest::used, used -> used.lineChar(index));
            Check.thrown("lineChar " + index + " of a|c", NO_INDEX, () -> library.lineChar(index));
        }
        library.formatShortest(0);
        Check.thrown("lineChar of a shorter line", NO_INDEX, () -> library.lineChar(1));
        library.undo();
        Check.same("the line stays", Use.line(library), "a");
    }

    private static void promise46() {
        PatternLibrary library = new PatternLibrary();
        for (int count = 1; count <= 60; count++) {
            Check.same("append " + count, library.append((char) (' ' + count)), count);
        }
        Check.thrown("append 61", STATE, () -> library.append('a'));
        Check.thrown("wrong character before full buffer", ARGUMENT, () -> library.append((char) 31));
        Check.same("buffer stays full", library.clearBuffer(), 60);
        Check.same("append space", library.append(' '), 1);
        Check.same("append ~", library.append('~'), 2);
        for (char character : new char[] {(char) 0, (char) 31, (char) 127, (char) 255, (char) 65535}) {
            fails("append " + (int) character, ARGUMENT, PromisesTest::used, used -> used.append(character));
        }
    }

    private static void promise47() {
        PatternLibrary library = Use.type(new PatternLibrary(), "abc");
        Check.same("clearBuffer", library.clearBuffer(), 3);
        Check.same("clearBuffer again", library.clearBuffer(), 0);
        Use.define(library, 0, "b");
        Check.same("nothing is left in it", Use.format(library, 0), "b");
        Check.same("it is no change", library.undoableCount(), 1);
    }

    private static void promise48() {
        PatternLibrary library = new PatternLibrary();
        Check.same("run set", Use.run(library, "set 0=a(b|c)*"), 1);
        Check.same("run leaves no buffer", library.clearBuffer(), 0);
        Check.same("run or, then, star", Use.run(library, "set 1=b;or 2=0,1;then 3=1,1;star 4=1"), 4);
        Check.same("after run", Use.shelf(library), "a(b|c)* b a(b|c)*|b bb b* - 5 put");
        Check.same("run word, cut, drop", Use.run(library, "word abc;word c;cut 0;drop 0;drop 4"), 5);
        Check.same("after another run", Use.shelf(library), "- b a(b|c)*|b bb - - \"c\" 5 put");
        Check.same("a run is one change", library.undoableCount(), 3);
        Check.same("run word of 8", Use.run(library, "word abcabcab"), 1);
        Check.same("word of 8", Use.word(library, 1), "abcabcab");
        Check.same("run of 60 characters", Use.run(library, "drop 1;drop 2;drop 3;cut 0;cut 0;word a;word b;word ca;cut 0"), 9);
        Check.same("later commands see earlier ones", Use.shelf(library), "- - - - - - \"b\" \"ca\" 5 put");
    }

    private static void promise48Errors() {
        String[] texts = {"", "x", "s", "st", "sta", "set", "set ", "set a", "set 0", "set 0=", "set 0=)", "set 0=a*", "set 0=a**",
            "set 0=(a;b)", "set 0=a|;", "set 0=a;", "set 0=a;;", "set 0 =a", "set  0=a", "or 0=1,", "or 5=40", "or 0=1,2,", "then 0=1,2 ",
            "thex", "sot", "star 0=1=", "drop", "drop 12", "word ", "word abd", "word a b", "word ;", "cut x", "cut 0;word a;o", " cut 0",
            "Set 0=a", "set 0=a)", "set 10=a", "cut -1", "set 0=a;set 1=b,"};
        int[] dues = {0, 0, 1, 2, 3, 3, 4, 4, 5, 6, 6, -1, 8, 8, 8, 8, 8, 5, 4, 7, 6, 8, 10,
            3, 1, 8, 4, 6, 5, 7, 6, 5, 4, 14, 0,
            0, 7, 5, 4, 15};
        for (int index = 0; index < texts.length; index++) {
            String text = texts[index];
            if (dues[index] < 0) {
                Check.same("run " + text, Use.run(new PatternLibrary(), text), 1);
                continue;
            }
            PatternLibrary library = Use.library("c");
            Check.thrown("run " + text, ARGUMENT, () -> Use.run(library, text));
            Check.same("error of " + text, library.errorPosition(), dues[index]);
            Check.thrown("no failed command in " + text, NO_ELEMENT, library::failedCommand);
            Check.same("buffer after " + text, library.clearBuffer(), 0);
            Check.same("slots after " + text, Use.shelf(library), "c - - - - - 1 put");
            Check.same("undoable after " + text, library.undoableCount(), 1);
        }
    }

    private static void promise48Failures() {
        String[] programs = {"set 6=a", "set 1=aaaaaaaa", "set 1=a;set 9=b", "or 0=0,1", "or 6=0,0", "then 1=7,0", "then 1=1,0", "star 1=1",
            "star 0=8", "drop 1", "drop 6", "drop 0;star 1=0", "cut 2", "cut 1;cut 1", "word aaaaaaaaa", "set 1=abca;or 2=1,1",
            "cut 0;cut 0;drop 0;word a;set 1=b;drop 2", "word a;word a;word a;word a;word a;word a;word a"};
        int[] dues = {0, 0, 1, 0, 0, 0, 0, 0, 0, 0, 0, 1, 0, 1, 0, 1, 5, 6};
        Supplier<PatternLibrary> made = () -> Use.samples(Use.library("a"), "a", "b");
        for (int index = 0; index < programs.length; index++) {
            String program = programs[index];
            PatternLibrary library = made.get();
            Check.thrown("run " + program, STATE, () -> Use.run(library, program));
            Check.same("failed command of " + program, library.failedCommand(), dues[index]);
            Check.thrown("no error in " + program, NO_ELEMENT, library::errorPosition);
            Check.same("buffer after " + program, library.clearBuffer(), 0);
            Check.same("slots after " + program, Use.shelf(library), "a - - - - - \"a\" \"b\" 1 put");
            Check.same("undoable after " + program, library.undoableCount(), 3);
        }
        PatternLibrary library = made.get();
        Check.thrown("malformed before failing", ARGUMENT, () -> Use.run(library, "drop 5;drop"));
        Check.thrown("a failing run", STATE, () -> Use.run(library, "drop 0;drop 0"));
        library.undo();
        Check.same("undo after a failing run", Use.shelf(library), "a - - - - - \"a\" 1 put");
    }

    private static void promise49() {
        PatternLibrary library = new PatternLibrary();
        fails("errorPosition of none", NO_ELEMENT, () -> Use.library("a"), PatternLibrary::errorPosition);
        Check.thrown("define a|", ARGUMENT, () -> Use.define(library, 0, "a|"));
        Check.same("errorPosition of a|", library.errorPosition(), 2);
        Check.thrown("run drop", ARGUMENT, () -> Use.run(library, "drop"));
        Check.same("errorPosition of drop", library.errorPosition(), 4);
        Check.thrown("define )", ARGUMENT, () -> Use.define(library, 0, ")"));
        Check.same("errorPosition of )", library.errorPosition(), 0);
        Use.define(library, 0, "a");
        library.save();
        library.undo();
        library.restore();
        Check.same("errorPosition stays", library.errorPosition(), 0);
    }

    private static void promise50() {
        PatternLibrary library = new PatternLibrary();
        fails("failedCommand of none", NO_ELEMENT, () -> Use.library("a"), PatternLibrary::failedCommand);
        Check.thrown("run", STATE, () -> Use.run(library, "set 0=a;word a;drop 1"));
        Check.same("failedCommand", library.failedCommand(), 2);
        Check.thrown("run malformed", ARGUMENT, () -> Use.run(library, "drop"));
        Use.run(library, "set 0=a");
        library.undo();
        Check.same("failedCommand stays", library.failedCommand(), 2);
        Check.thrown("another run", STATE, () -> Use.run(library, "drop 1"));
        Check.same("another failedCommand", library.failedCommand(), 0);
    }

    private static void promise51() {
        PatternLibrary library = new PatternLibrary();
        for (int count = 1; count <= 10; count++) {
            Use.define(library, count % 6, "a");
            Check.same("undoableCount", library.undoableCount(), Math.min(count, 8));
        }
        library.save();
        library.formatPattern(0);
        library.append('a');
        Check.thrown("no change", NO_INDEX, () -> library.repeat(0, 6));
        Check.same("undoableCount after others", library.undoableCount(), 8);
        PatternLibrary kinds = Use.library("a", "a");
        kinds.unite(2, 0, 1);
        kinds.concatenate(2, 0, 1);
        kinds.repeat(2, 0);
        kinds.remove(2);
        Use.samples(kinds, "a");
        kinds.removeWord(0);
        Check.same("undoableCount of each kind", kinds.undoableCount(), 8);
        kinds.undo();
        Use.run(kinds, "set 0=a");
        Check.same("undoableCount with run", kinds.undoableCount(), 8);
    }

    private static void promise52() {
        PatternLibrary library = Use.library("a", "b");
        Use.samples(library, "a", "b");
        library.removeWord(0);
        library.remove(0);
        Use.run(library, "set 0=c;word c");
        String[] dues = {"- b - - - - \"b\" 2 put", "a b - - - - \"b\" 2 put", "a b - - - - \"a\" \"b\" 2 put", "a b - - - - \"a\" 2 put",
            "a b - - - - 2 put", "a - - - - - 1 put", "- - - - - - 0 put"};
        for (int index = 0; index < dues.length; index++) {
            Check.same("undo", library.undo(), dues.length - 1 - index);
            Check.same("undone " + index, Use.shelf(library), dues[index]);
        }
        fails("undo of none", STATE, PatternLibrary::new, PatternLibrary::undo);
        Check.thrown("undo of no more", STATE, library::undo);
        PatternLibrary many = new PatternLibrary();
        for (int count = 0; count < 10; count++) {
            Use.define(many, 0, "abc".substring(0, 1 + count % 3));
        }
        for (int left = 7; left >= 0; left--) {
            Check.same("undo of many", many.undo(), left);
        }
        Check.same("two of ten stay", Use.shelf(many), "ab - - - - - 2 put");
        Check.thrown("undo of a ninth", STATE, many::undo);
        undoOfEachKind();
        undoLeavesTheRest();
    }

    private static void undone(String what, Query change) {
        PatternLibrary library = Use.samples(Use.library("a", "b*", "ab"), "ab", "b");
        String before = Use.shelf(library);
        change.of(library);
        Check.same(what + " changes", Use.shelf(library).equals(before), false);
        Check.same("undo after " + what, library.undo(), 5);
        Check.same(what + " is undone", Use.shelf(library), before);
    }

    private static void undoOfEachKind() {
        undone("define", library -> Use.define(library, 0, "c"));
        undone("define of the same", library -> Use.define(library, 0, "a"));
        undone("unite", library -> library.unite(0, 0, 1));
        undone("concatenate", library -> library.concatenate(5, 1, 1));
        undone("repeat", library -> library.repeat(2, 2));
        undone("remove", library -> library.remove(1));
        undone("addWord", library -> Use.samples(library, "c"));
        undone("removeWord", library -> library.removeWord(0));
        undone("run", library -> Use.run(library, "cut 0;drop 1;set 5=c"));
    }

    private static void undoLeavesTheRest() {
        PatternLibrary after = Use.type(used(), "c");
        after.undo();
        Check.same("undo leaves the buffer", after.clearBuffer(), 3);
        Check.same("undo leaves the error", after.errorPosition(), 2);
        Check.same("undo leaves the failure", after.failedCommand(), 1);
        Check.same("undo leaves the line", Use.line(after), "a*b");
        after.restore();
        Check.same("undo leaves the saved copy", Use.shelf(after), "a*b (a|b)c - - - - \"ab\" \"c\" 2 put");
    }

    private static void promise53() {
        PatternLibrary library = Use.library("a", null, "b");
        Use.samples(library, "ab");
        Check.same("save", library.save(), 2);
        Check.same("save is no change", library.undoableCount(), 3);
        library.remove(0);
        Check.same("save replaces", library.save(), 1);
        library.remove(2);
        library.restore();
        Check.same("the later copy", Use.shelf(library), "- - b - - - \"ab\" 2 put");
        Check.same("save of none", new PatternLibrary().save(), 0);
    }

    private static void promise54() {
        PatternLibrary library = Use.library("a", null, "b");
        Use.samples(library, "ab");
        library.save();
        Use.define(library, 0, "c");
        library.remove(2);
        library.removeWord(0);
        Use.samples(library, "c", "c");
        Check.same("restore", library.restore(), 2);
        Check.same("restored", Use.shelf(library), "a - b - - - \"ab\" 2 put");
        Check.same("nothing to undo", library.undoableCount(), 0);
        Check.thrown("undo after restore", STATE, library::undo);
        library.remove(0);
        Use.samples(library, "a");
        Check.same("changes after restore", library.undoableCount(), 2);
        Check.same("restore again", library.restore(), 2);
        Check.same("restored again", Use.shelf(library), "a - b - - - \"ab\" 2 put");
        fails("restore of none", STATE, () -> Use.type(Use.library("a", "b"), "c"), PatternLibrary::restore);
        PatternLibrary rest = Use.type(used(), "c");
        rest.restore();
        Check.same("restore leaves the buffer", rest.clearBuffer(), 3);
        Check.same("restore leaves the error", rest.errorPosition(), 2);
        Check.same("restore leaves the failure", rest.failedCommand(), 1);
        Check.same("restore leaves the line", Use.line(rest), "a*b");
    }
}
