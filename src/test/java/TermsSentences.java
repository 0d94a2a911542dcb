/** Tests for the sentences of "What it is" and of "Terms". */
final class TermsSentences {
    private final Sentences document;

    TermsSentences(Sentences document) {
        this.document = document;
    }

    void tell() {
        document.under("What it is");
        calls();
        document.under("Terms");
        document.says("Words are matched by positions and by spans, patterns are turned into automata with few states, and patterns "
            + "are compared by the words that they accept.", TermsSentences::wordsAutomataAndComparisons);
        form();
        acceptance();
        slots();
        positions();
        automata();
        samples();
        buffer();
        programs();
        errorPositions();
        undo();
        errors();
    }

    private void calls() {
        document.says("A library of patterns for words: each pattern accepts words of the letters a, b and c.", () -> {
            Check.same("words of (a|b|c)*", Use.accepted("(a|b|c)*", 2), "- a b c aa ab ac ba bb bc ca cb cc");
            Refused.call("define d", Refused.ARGUMENT, () -> Refused.typed(Refused.used(), "d"), library -> library.define(0),
                TermsSentences::malformedAtOnce);
        });
        document.says("An object is used for at most 512 calls after it has been made; what later calls answer is free.", () -> {
            PatternLibrary library = new PatternLibrary();
            for (int call = 1; call < 511; call += 2) {
                library.append("abc".charAt(call % 3));
                library.define(call % 6);
            }
            Check.same("call 511", library.definedTotal(), 255);
            Check.same("call 512", library.undoableCount(), 8);
        });
    }

    private static void malformedAtOnce(PatternLibrary library) {
        library.clearBuffer();
        Check.thrown("define |", Refused.ARGUMENT, () -> Use.define(library, 0, "|"));
    }

    private static void wordsAutomataAndComparisons() {
        PatternLibrary library = Use.type(Use.library("(a|b)*a(a|b)", "((a|b)(a|b)*)?a(a|b)"), "bab");
        Check.same("by positions", library.matches(0), true);
        Check.same("by spans", library.matchesBySpans(0), true);
        Check.same("states", library.stateCount(0), 6);
        Check.same("few states", library.smallestCount(0), 5);
        Check.same("compared", library.areEquivalent(0, 1), true);
    }

    /** The text is a pattern, though one with more than 7 letters is too large. */
    private static void wellFormed(String text) {
        PatternLibrary library = new PatternLibrary();
        int letters = text.replaceAll("[^abc]", "").length();
        String due = letters > 7 ? "throws IllegalStateException" : String.valueOf(letters);
        Check.same("define " + text, Check.answer(() -> Use.define(library, 0, text)), due);
        Check.thrown("no error in " + text, Refused.NO_ELEMENT, library::errorPosition);
    }

    private static void malformed(String text, int position) {
        PatternLibrary library = Use.library("c");
        Check.thrown("define " + text, Refused.ARGUMENT, () -> Use.define(library, 0, text));
        Check.same("error position of " + text, library.errorPosition(), position);
        Check.same("shelf after " + text, Use.shelf(library), "c - - - - - 1 put");
    }

    private void form() {
        document.says("Patterns. A pattern has this form, where [ x ] means that x is optional, { x } means zero or more repetitions "
            + "of x, and a vertical bar outside of quotes separates alternatives:", () -> {
                wellFormed("a");
                wellFormed("b*(c|a)");
                malformed("", 0);
                malformed("[a]", 0);
                malformed("{a}", 0);
                malformed("\"a\"", 0);
            });
        document.says("pattern = branch { \"|\" branch }", () -> {
            wellFormed("a|b");
            wellFormed("a|b|c|a|b|c|a");
            wellFormed("a|".repeat(29) + "a");
            malformed("|", 0);
            malformed("|a", 0);
            malformed("a|", 2);
            malformed("a||b", 2);
            malformed("a|".repeat(30), 60);
        });
        document.says("branch = factor { factor }", () -> {
            wellFormed("ab");
            wellFormed("abcabca");
            wellFormed("abc".repeat(20));
            wellFormed("a(b)c*");
            malformed("(|a)", 1);
            malformed("a|(|b)", 3);
            malformed("a b", 1);
            malformed("a,b", 1);
        });
        document.says("factor = atom [ \"*\" | \"+\" | \"?\" ]", TermsSentences::factors);
        document.says("atom = \"a\" | \"b\" | \"c\" | \"(\" pattern \")\"", TermsSentences::atoms);
    }

    private static void factors() {
        String signs = "*+?";
        for (char sign : signs.toCharArray()) {
            wellFormed("a" + sign);
            wellFormed("(a)" + sign);
            wellFormed("(a" + sign + ")" + sign);
            malformed("" + sign, 0);
            malformed("(" + sign, 1);
            malformed("a|" + sign, 2);
            for (char second : signs.toCharArray()) {
                malformed("a" + sign + second, 2);
                malformed("(a)" + sign + second, 4);
            }
        }
        malformed("a{", 1);
        malformed("a-", 1);
    }

    private static void atoms() {
        for (String letter : new String[] {"a", "b", "c", "(a)", "((b))", "(((c|a)))"}) {
            wellFormed(letter);
        }
        for (char wrong : "`dABC0 ~!{}[].;=\\".toCharArray()) {
            malformed("" + wrong, 0);
            malformed("a" + wrong, 1);
            malformed("(a|b)*" + wrong, 6);
        }
        wellFormed("(".repeat(29) + "ab" + ")".repeat(29));
        malformed("(", 1);
        malformed(")", 0);
        malformed("()", 1);
        malformed("(a", 2);
        malformed("a)", 1);
        malformed("(a))", 3);
        malformed("((a)", 4);
        malformed("a(", 2);
        malformed("a)(b", 1);
        malformed("(".repeat(60), 60);
        malformed("(".repeat(30) + "a" + ")".repeat(29), 60);
        malformed("(".repeat(29) + "a" + ")".repeat(30), 59);
    }

    private void acceptance() {
        document.says("A letter accepts the word that consists of it.", () -> {
            Check.same("words of a", Use.accepted("a", 3), "a");
            Check.same("words of b", Use.accepted("b", 3), "b");
            Check.same("words of c", Use.accepted("c", 3), "c");
        });
        document.says("A branch accepts the words that consist of a word for each of its factors, one after the other.", () -> {
            Check.same("words of ab", Use.accepted("ab", 4), "ab");
            Check.same("words of a(b|c)a?", Use.accepted("a(b|c)a?", 4), "ab ac aba aca");
            Check.same("words of a?b?c?", Use.accepted("a?b?c?", 4), "- a b c ab ac bc abc");
            Check.same("words of abcabca", Use.accepted("abcabca", 7), "abcabca");
        });
        document.says("A pattern with branches accepts the words that one of them accepts.", () -> {
            Check.same("words of a|b", Use.accepted("a|b", 3), "a b");
            Check.same("words of a|bc|c*", Use.accepted("a|bc|c*", 3), "- a c bc cc ccc");
            Check.same("words of a|a", Use.accepted("a|a", 3), "a");
            Check.same("words of seven", Use.accepted("a|b|c|a|b|c|a", 2), "a b c");
        });
        document.says("A factor with \"*\" accepts the words that consist of zero or more words that its atom accepts, one with \"+\" "
            + "those of one or more, and one with \"?\" those of zero or one.", TermsSentences::repetitions);
        document.says("The empty word has no letters.", () -> {
            PatternLibrary library = Use.library("a?");
            Check.same("matches nothing", library.matches(0), true);
            Check.same("matchesBySpans nothing", library.matchesBySpans(0), true);
            Check.same("words without letters", library.countWords(0, 0), 1);
            Check.same("words tried without letters", library.countWordsByListing(0, 0), 1);
            Check.same("shortestLength", library.shortestLength(0), 0);
            Check.same("formatShortest", library.formatShortest(0), 0);
        });
    }

    private static void repetitions() {
        Check.same("words of (ab)*", Use.accepted("(ab)*", 6), "- ab abab ababab");
        Check.same("words of (ab)+", Use.accepted("(ab)+", 6), "ab abab ababab");
        Check.same("words of (ab)?", Use.accepted("(ab)?", 6), "- ab");
        Check.same("words of (a|bb)*", Use.accepted("(a|bb)*", 3), "- a aa bb aaa abb bba");
        Check.same("words of (a|bb)+", Use.accepted("(a|bb)+", 3), "a aa bb aaa abb bba");
        Check.same("words of (a|bb)?", Use.accepted("(a|bb)?", 3), "- a bb");
        Check.same("words of (a*)+", Use.accepted("(a*)+", 3), "- a aa aaa");
        Check.same("words of (a+)?", Use.accepted("(a+)?", 3), "- a aa aaa");
        Check.same("words of (a?)+", Use.accepted("(a?)+", 3), "- a aa aaa");
        Check.same("words of ca*", Use.accepted("ca*", 3), "c ca caa");
        PatternLibrary most = Use.type(Use.library("a*", "a+", "a?"), "a".repeat(12));
        Check.same("12 times by *", most.matches(0), true);
        Check.same("12 times by +", most.matches(1), true);
        Check.same("12 times by ?", most.matches(2), false);
    }

    private void slots() {
        document.says("Slots. The slots 0 to 5 each hold a pattern or are free, initially free.", () -> {
            PatternLibrary library = new PatternLibrary();
            Check.same("initially", Use.shelf(library), "- - - - - - 0 put");
            for (int slot = 0; slot < 6; slot++) {
                Use.define(library, slot, "abcabc".substring(slot));
            }
            Check.same("full", Use.shelf(library), "abcabc bcabc cabc abc bc c 6 put");
            library.remove(0);
            library.remove(5);
            Check.same("some free", Use.shelf(library), "- bcabc cabc abc bc - 6 put");
            Check.thrown("slot -1", Refused.NO_INDEX, () -> library.hasPattern(-1));
            Check.thrown("slot 6", Refused.NO_INDEX, () -> library.hasPattern(6));
        });
        document.says("A pattern is too large if it has more than 7 letters, or more than 9 of the signs \"*\", \"+\" and \"?\".", () -> {
            sized("aaaaaaa", "7");
            sized("aaaaaaaa", "throws IllegalStateException");
            sized("(a|b)(c|a)(b|c)a", "7");
            sized("(a|b)(c|a)(b|c)(a|b)", "throws IllegalStateException");
            sized("a*b*c*a+b+c+a?", "7");
            sized("(a*b+c?)*(a*b+c?)+a?", "7");
            sized("(a*b+c?)*(a*b+c?)+(a?)*", "throws IllegalStateException");
            for (char sign : "*+?".toCharArray()) {
                sized("(".repeat(8) + "a" + (sign + ")").repeat(8) + sign, "1");
                sized("(".repeat(9) + "a" + (sign + ")").repeat(9) + sign, "throws IllegalStateException");
            }
        });
    }

    private static void sized(String text, String due) {
        Check.same("define " + text, Check.answer(() -> Use.define(new PatternLibrary(), 0, text)), due);
    }

    private void positions() {
        document.says("Positions. The letters of a pattern are its positions, numbered from 0 from left to right.", () -> {
            // A state for each of 7 positions, the initial one and the empty set.
            automaton("abcabca", 9, 1);
            automaton("aaaaaaa", 9, 1);
        });
        document.says("If each letter is replaced by its position, the pattern accepts words of positions.", () -> {
            // The initial state, {0, 1} and the empty set; then the initial state, {0, 2}, {1} and the empty set.
            automaton("a|a", 3, 1);
            automaton("aa|a", 4, 2);
        });
        document.says("A position is a first one if such a word begins with it, a last one if such a word ends with it, and it follows "
            + "a position if it stands directly after that position in such a word.", () -> {
                // Each letter is one position here.
                neighbours("a?b*c", "a b c", "c", "ab ac bb bc");
                neighbours("(ab)+c?", "a", "b c", "ab ba bc");
                neighbours("((a|b)?c)*", "a b c", "c", "ac bc ca cb cc");
                neighbours("a|b|c", "a b c", "a b c", "");
                neighbours("(a?b?c?)*", "a b c", "a b c", "aa ab ac ba bb bc ca cb cc");
            });
    }

    private static void neighbours(String pattern, String first, String last, String pairs) {
        PatternLibrary library = Use.library(pattern);
        StringBuilder firsts = new StringBuilder();
        StringBuilder lasts = new StringBuilder();
        StringBuilder next = new StringBuilder();
        for (char one : "abc".toCharArray()) {
            firsts.append(library.canBegin(0, one) ? " " + one : "");
            lasts.append(library.canEnd(0, one) ? " " + one : "");
            for (char other : "abc".toCharArray()) {
                next.append(library.canBeAdjacent(0, one, other) ? " " + one + other : "");
            }
        }
        Check.same("first ones of " + pattern, firsts.toString().trim(), first);
        Check.same("last ones of " + pattern, lasts.toString().trim(), last);
        Check.same("pairs of " + pattern, next.toString().trim(), pairs);
    }

    private static void automaton(String pattern, int states, int accepting) {
        PatternLibrary library = Use.library(pattern);
        Check.same("stateCount of " + pattern, library.stateCount(0), states);
        Check.same("acceptingCount of " + pattern, library.acceptingCount(0), accepting);
    }

    private static void smallest(String pattern, int states) {
        PatternLibrary library = Use.library(pattern);
        Check.same("smallestCount of " + pattern, library.smallestCount(0), states);
        Check.same("smallestCountByPairs of " + pattern, library.smallestCountByPairs(0), states);
    }

    private void automata() {
        document.says("Automata. The states of the automaton of a pattern are an initial state and sets of positions.", () -> {
            // The initial state is one of its own, though {0} is like it.
            automaton("a*", 3, 2);
            automaton("(a|b|c)*", 4, 4);
        });
        document.says("With a letter, the initial state leads to the set of the first positions that have this letter, and a set leads "
            + "to the set of the positions that have this letter and follow a position of the set.", () -> {
                // The initial state, {0, 2}, {1}, {0, 2, 3}, {1, 4} and the empty set.
                automaton("(a|b)*a(a|b)", 6, 2);
                // The initial state, {0}, {2}, {1}, {3} and the empty set.
                automaton("ab|cb", 6, 2);
                // The initial state, {0, 1}, {2}, {3} and the empty set.
                automaton("(a|a)(b|c)", 5, 2);
            });
        document.says("The automaton consists of the initial state and of all sets to which a state of it leads; the empty set can be "
            + "among them.", () -> {
                automaton("a", 3, 1);
                automaton("a|b|c", 5, 3);
                automaton("(a|b|c)+", 4, 3);
                automaton("(a|b)*(a|b)c*", 5, 3);
            });
        document.says("The initial state is accepting if the pattern accepts the empty word, and a set is accepting if a last position "
            + "is in it.", () -> {
                automaton("ab", 4, 1);
                automaton("(ab)?", 4, 2);
                automaton("ab?", 4, 2);
                automaton("(ab?)?", 4, 3);
            });
        document.says("A word is accepted if its letters lead from the initial state to an accepting state.", () -> {
            Check.same("words of (a|b)*a(a|b)", Use.accepted("(a|b)*a(a|b)", 3), "aa ab aaa aab baa bab");
            Check.same("words of (a|b|c)*", Use.accepted("(a|b|c)*", 1), "- a b c");
        });
        document.says("The smallest automaton has the fewest states with which the same words are accepted, where every state still "
            + "leads to a state with each letter.", () -> {
                smallest("(a|b|c)*", 1);
                smallest("(a|b|c)+", 2);
                // One state more than letters lead to, from which no word is accepted.
                smallest("a", 3);
                smallest("a*", 2);
                smallest("abcabca", 9);
                smallest("ab|cb", 4);
                smallest("((a|b)(a|b))*", 3);
            });
    }

    private void samples() {
        document.says("Samples. At most 8 sample words are kept, numbered from 0 in the order in which they were added; when a word is "
            + "removed, the numbers of the later ones decrease by 1.", () -> {
                PatternLibrary library = new PatternLibrary();
                for (int index = 0; index < 8; index++) {
                    Check.same("addWord", Use.type(library, "abcabcab".substring(index)).addWord(), index);
                }
                Check.thrown("a ninth", Refused.STATE, () -> Use.type(library, "c").addWord());
                Check.same("removeWord 2", library.removeWord(2), 7);
                Check.same("word 1 stays", Use.word(library, 1), "bcabcab");
                Check.same("word 2 was 3", Use.word(library, 2), "abcab");
                Check.same("word 6 was 7", Use.word(library, 6), "b");
                Check.thrown("word 7 is none", Refused.NO_INDEX, () -> library.wordLength(7));
                Check.same("one more again", Use.type(library, "c").addWord(), 7);
                library.removeWord(0);
                library.removeWord(6);
                Check.same("without the first and the last", Use.shelf(library),
                    "- - - - - - \"bcabcab\" \"abcab\" \"bcab\" \"cab\" \"ab\" \"b\" 0 put");
            });
        document.says("A sample word has 1 to 8 letters.", () -> {
            Check.thrown("0 letters", Refused.ARGUMENT, () -> Use.type(new PatternLibrary(), "").addWord());
            for (int length = 1; length <= 8; length++) {
                PatternLibrary library = Use.samples(new PatternLibrary(), "cabcabca".substring(8 - length));
                Check.same("letters", library.wordLength(0), length);
            }
            Check.thrown("9 letters", Refused.ARGUMENT, () -> Use.type(new PatternLibrary(), "abcabcabc").addWord());
        });
    }

    private void buffer() {
        document.says("Commands. The buffer holds up to 60 characters; it is used for patterns, for words and for programs.", () -> {
            PatternLibrary library = Use.type(new PatternLibrary(), "(".repeat(29) + "a" + ")".repeat(29));
            Check.same("append of the 60th character", library.append('*'), 60);
            Check.thrown("append of a 61st character", Refused.STATE, () -> library.append('b'));
            Check.same("the 60 characters are a pattern", library.define(0), 1);
            Check.same("of all of them", Use.format(library, 0), "a*");
            Check.same("a word", Use.type(library, "cab").addWord(), 0);
            Check.same("of all of it", Use.word(library, 0), "cab");
            Check.same("a program of 60 characters", Use.run(library, "word a;" + "drop 0;" + "word b;".repeat(5) + "cut 0;cut 0"), 9);
            Check.same("with all its commands", Use.shelf(library), "- - - - - - \"b\" \"b\" \"b\" \"b\" \"b\" 1 put");
        });
    }

    private void programs() {
        document.says("A program has this grammar, with the same notation:", () -> {
            fits("drop 0", 1);
            broken("", 0);
            broken("a", 0);
            broken("\"drop 0\"", 0);
        });
        document.says("program = command { \";\" command }", () -> {
            fits("drop 1;drop 2;cut 0;cut 0;word a;word b;word c;star 1=0", 8);
            PatternLibrary most = Use.samples(new PatternLibrary(), "a", "b", "c", "a", "b", "c", "a", "b");
            Check.same("run of 10 commands", Use.run(most, "cut 0;".repeat(8) + "word a;cut 0"), 10);
            Check.same("after 10 commands", Use.shelf(most), "- - - - - - 0 put");
            broken(";", 0);
            broken(";drop 0", 0);
            broken("drop 0;", 7);
            broken("drop 0;;drop 1", 7);
            broken("drop 0,drop 1", 6);
            broken("drop 0 ;drop 1", 6);
            broken("drop 0; drop 1", 7);
        });
        document.says("command = \"set \" digit \"=\" pattern | \"or \" digit \"=\" digit \",\" digit | \"then \" digit \"=\" digit \",\" digit | "
            + "\"star \" digit \"=\" digit | \"drop \" digit | \"word \" letter { letter } | \"cut \" digit", TermsSentences::commands);
        document.says("letter = \"a\" | \"b\" | \"c\"", () -> {
            fits("word a;word b;word c", 3);
            for (char wrong : "`dA*( 0;".toCharArray()) {
                broken("word " + wrong, 5);
            }
            broken("word `a", 5);
            broken("word ad", 6);
        });
        document.says("The commands put the pattern into the slot, and correspond to the methods unite, concatenate, repeat, remove, "
            + "addWord with the letters as the buffer, and removeWord, with the arguments in the same order.", TermsSentences::methods);
    }

    /** A library in which each command of a digit up to 3 can be executed. */
    private static PatternLibrary filled() {
        return Use.samples(Use.library("ab", "b*", "c", "a|c"), "ab", "c");
    }

    private static void fits(String program, int commands) {
        PatternLibrary library = filled();
        Check.same("run " + program, Check.answer(() -> Use.run(library, program)), String.valueOf(commands));
        Check.thrown("no error in " + program, Refused.NO_ELEMENT, library::errorPosition);
    }

    private static void broken(String program, int position) {
        PatternLibrary library = filled();
        String before = Use.shelf(library);
        Check.thrown("run " + program, Refused.ARGUMENT, () -> Use.run(library, program));
        Check.same("error position of " + program, library.errorPosition(), position);
        Check.thrown("no failed command in " + program, Refused.NO_ELEMENT, library::failedCommand);
        Check.same("shelf after " + program, Use.shelf(library), before);
    }

    private static void commands() {
        String[] programs = {"set 0=a(b|c)*", "or 4=0,1", "then 5=2,3", "star 4=2", "drop 3", "word abcabcab", "cut 1"};
        for (String program : programs) {
            fits(program, 1);
            int keyword = program.indexOf(' ') + 1;
            broken(program.substring(0, keyword), keyword);
            broken(program.substring(0, keyword) + "/", keyword);
            broken(program.substring(0, keyword) + ":", keyword);
            broken(program.substring(0, keyword) + "=", keyword);
            broken(program.substring(0, keyword) + " ", keyword);
            broken(program.substring(0, keyword - 1) + "0", keyword - 1);
        }
        broken("set a", 4);
        broken("set 0", 5);
        broken("set 0a", 5);
        broken("set 00=a", 5);
        broken("set 0=", 6);
        broken("set 0=1", 6);
        broken("set 0=a1", 7);
        broken("or 0=", 5);
        broken("or 0=a", 5);
        broken("or 0=1", 6);
        broken("or 0=1;", 6);
        broken("or 0=1,", 7);
        broken("or 0=1,2,3", 8);
        broken("then 0=1 2", 8);
        broken("then 0=1,2=3", 10);
        broken("star 0", 6);
        broken("star 0=1,2", 8);
        broken("drop 0=1", 6);
        broken("drop 01", 6);
        broken("word ab ", 7);
        broken("cut 0,1", 5);
        digits();
    }

    /** All ten digits are digits; those of slots and words that there are not make the command fail. */
    private static void digits() {
        for (char digit = '0'; digit <= '9'; digit++) {
            boolean slot = digit <= '5';
            boolean held = digit <= '3';
            executed("set " + digit + "=a", slot);
            executed("or " + digit + "=0,0", slot);
            executed("or 0=" + digit + ",1", held);
            executed("or 0=1," + digit, held);
            executed("then " + digit + "=0,0", slot);
            executed("then 0=" + digit + ",1", held);
            executed("then 0=1," + digit, held);
            executed("star " + digit + "=0", slot);
            executed("star 0=" + digit, held);
            executed("drop " + digit, held);
            executed("cut " + digit, digit <= '1');
        }
    }

    private static void executed(String program, boolean due) {
        PatternLibrary library = filled();
        String answer = Check.answer(() -> Use.run(library, program));
        Check.same("run " + program, answer, due ? "1" : "throws IllegalStateException");
        Check.thrown("no error in " + program, Refused.NO_ELEMENT, library::errorPosition);
    }

    private static void methods() {
        corresponds("set 5=ca*", library -> Use.define(library, 5, "ca*"));
        corresponds("or 5=3,1", library -> library.unite(5, 3, 1));
        corresponds("or 1=0,1", library -> library.unite(1, 0, 1));
        corresponds("then 4=0,3", library -> library.concatenate(4, 0, 3));
        corresponds("then 0=3,0", library -> library.concatenate(0, 3, 0));
        corresponds("star 5=3", library -> library.repeat(5, 3));
        corresponds("star 1=0", library -> library.repeat(1, 0));
        corresponds("drop 2", library -> library.remove(2));
        corresponds("word cba", library -> Use.samples(library, "cba"));
        corresponds("cut 0", library -> library.removeWord(0));
        corresponds("cut 1", library -> library.removeWord(1));
    }

    private static void corresponds(String command, Refused.Query method) {
        PatternLibrary library = filled();
        PatternLibrary same = filled();
        Check.same("run " + command, Use.run(library, command), 1);
        method.of(same);
        Check.same("after " + command, Use.everything(library), Use.everything(same));
    }

    private void errorPositions() {
        document.says("The error position of a malformed text is the index of the first character that no valid text can have there after "
            + "the characters before it, or the length of the text if it is a proper prefix of a valid text.", () -> {
                malformed("", 0);
                malformed("a(b|", 4);
                malformed("a(b|)", 4);
                malformed("a(b|)))", 4);
                malformed("(a)*(b)+((c", 11);
                malformed("(a)*(b)+((c$a)", 11);
                malformed("(".repeat(59) + "|", 59);
                malformed("(".repeat(59) + "a", 60);
                broken("", 0);
                broken("set 0=(a|b", 10);
                broken("set 0=(a|b;drop 0", 10);
                broken("set 0=a|;drop 0", 8);
                broken("set 0=a*;drop", 13);
                broken("set 0=a*;drop x", 14);
                broken("word abcabcabcabcabc;or", 23);
                broken("set 0=" + "(".repeat(54), 60);
                broken("drop 1;drop 2;drop 3;cut 0;cut 0;word a;word b;word c;cut 0;", 60);
            });
        document.says("Keywords are matched letter by letter.", () -> {
            for (String keyword : new String[] {"set ", "or ", "then ", "star ", "drop ", "word ", "cut "}) {
                for (int length = 0; length < keyword.length(); length++) {
                    broken(keyword.substring(0, length), length);
                    broken(keyword.substring(0, length) + "x", length);
                    broken(keyword.substring(0, length) + keyword.substring(length, length + 1).toUpperCase().replace(' ', '_'), length);
                    broken("drop 0;" + keyword.substring(0, length) + ";", 7 + length);
                }
            }
            broken("star", 4);
            broken("sear 0=1", 2);
            broken("stt 0=a", 2);
            broken("seta0=a", 3);
            broken("orr 0=1,2", 2);
            broken("the 0=1,2", 3);
        });
    }

    private void undo() {
        document.says("Undo. The calls of define, unite, concatenate, repeat, remove, addWord, removeWord and run that return normally are "
            + "changes, even if they have no effect.", TermsSentences::kindsOfChanges);
        document.says("Up to 8 changes can be undone, the latest change first.", () -> {
            PatternLibrary library = new PatternLibrary();
            String[] patterns = {"a", "b", "c", "aa", "ab", "ac", "ba", "bb", "bc"};
            for (int index = 0; index < patterns.length; index++) {
                Use.define(library, 0, patterns[index]);
                Check.same("undoable", library.undoableCount(), Math.min(index + 1, 8));
            }
            for (int left = 7; left >= 0; left--) {
                Check.same("undo", library.undo(), left);
                Check.same("the change before it", Use.format(library, 0), patterns[left]);
            }
            Check.thrown("a ninth undo", Refused.STATE, library::undo);
            Check.same("the first change stays", Use.shelf(library), "a - - - - - 1 put");
        });
        document.says("Undo does not affect the buffer, the error position, the index of the failed command, the formatted line, or the "
            + "saved copy.", () -> {
                PatternLibrary library = Use.type(Refused.used(), "c");
                while (library.undoableCount() > 0) {
                    library.undo();
                    Check.same("the error position", library.errorPosition(), 2);
                    Check.same("the failed command", library.failedCommand(), 1);
                    Check.same("the line", Use.line(library), "a*b");
                }
                Check.same("the buffer", Use.type(library, "b").addWord(), 0);
                Check.same("its characters", Use.word(library, 0), "bacb");
                library.restore();
                Check.same("the saved copy", Use.shelf(library), "a*b (a|b)c - - - - \"ab\" \"c\" 2 put");
            });
    }

    private static void kindsOfChanges() {
        change("define", library -> Use.define(library, 0, "a"));
        change("define of the same", library -> Use.define(library, 0, "ab"));
        change("unite", library -> library.unite(0, 0, 1));
        change("concatenate", library -> library.concatenate(5, 1, 2));
        change("repeat", library -> library.repeat(1, 1));
        change("remove", library -> library.remove(0));
        change("addWord", library -> Use.samples(library, "b"));
        change("removeWord", library -> library.removeWord(1));
        change("run", library -> Use.run(library, "drop 0"));
        change("run without an effect", library -> Use.run(library, "word b;cut 2"));
        noChange("clearBuffer", PatternLibrary::clearBuffer);
        noChange("append", library -> library.append('a'));
        noChange("save", PatternLibrary::save);
        noChange("formatPattern", library -> library.formatPattern(0));
        noChange("formatShortest", library -> library.formatShortest(0));
        noChange("formatDifference", library -> library.formatDifference(0, 1));
        noChange("a refused define", library -> Check.answer(() -> Use.define(library, 0, "|")));
        noChange("a refused unite", library -> Check.answer(() -> library.unite(0, 0, 4)));
        noChange("a refused concatenate", library -> Check.answer(() -> library.concatenate(0, 0, 4)));
        noChange("a refused repeat", library -> Check.answer(() -> library.repeat(0, 4)));
        noChange("a refused remove", library -> Check.answer(() -> library.remove(4)));
        noChange("a refused addWord", library -> Check.answer(library::addWord));
        noChange("a refused removeWord", library -> Check.answer(() -> library.removeWord(2)));
        noChange("a malformed run", library -> Check.answer(() -> Use.run(library, "drop")));
        noChange("a failing run", library -> Check.answer(() -> Use.run(library, "drop 0;drop 0")));
    }

    private static void change(String what, Refused.Query call) {
        PatternLibrary library = filled();
        String before = Use.shelf(library);
        call.of(library);
        Check.same(what + " is a change", library.undoableCount(), 7);
        Check.same("undo of " + what, library.undo(), 6);
        Check.same(what + " is undone", Use.shelf(library), before);
    }

    private static void noChange(String what, Refused.Query call) {
        PatternLibrary library = filled();
        call.of(library);
        Check.same(what + " is no change", library.undoableCount(), 6);
        library.undo();
        Check.same("undone after " + what, Use.shelf(library), "ab b* c a|c - - \"ab\" 4 put");
    }

    private void errors() {
        document.says("Errors. A method that throws an exception leaves the library unchanged, unless its description says otherwise.", () -> {
            Refused.call("unite", Refused.NO_ELEMENT, Refused::used, library -> library.unite(0, 5, 0));
            Refused.call("repeat", Refused.NO_INDEX, Refused::used, library -> library.repeat(0, 6));
            Refused.call("formatPattern", Refused.NO_ELEMENT, Refused::used, library -> library.formatPattern(5));
            Refused.call("formatDifference", Refused.NO_ELEMENT, Refused::used, library -> library.formatDifference(0, 5));
            Refused.call("append", Refused.ARGUMENT, Refused::used, library -> library.append((char) 127));
            Refused.call("matches", Refused.ARGUMENT, () -> Use.type(Refused.used(), "d"), library -> library.matches(0));
            Refused.call("undo", Refused.STATE, PatternLibrary::new, PatternLibrary::undo);
            Refused.call("a failing run", Refused.STATE, () -> Refused.typed(Refused.used(), "drop 0;word a;set 5=b;cut 7"),
                PatternLibrary::run, TermsSentences::failingAtOnce);
        });
        document.says("If several conditions of a method apply, the exception that is listed first is thrown.", TermsSentences::order);
    }

    private static void failingAtOnce(PatternLibrary library) {
        library.clearBuffer();
        Check.thrown("run", Refused.STATE, () -> Use.run(library, "word a;cut 0;cut 0;cut 9"));
    }

    private static void order() {
        PatternLibrary library = Use.type(Use.library("abcab"), "||");
        Check.thrown("define: slot before pattern", Refused.NO_INDEX, () -> library.define(6));
        Check.thrown("unite: slot before free one", Refused.NO_INDEX, () -> library.unite(0, 5, 6));
        Check.thrown("concatenate: slot before free one", Refused.NO_INDEX, () -> library.concatenate(6, 5, 5));
        Check.thrown("repeat: slot before free one", Refused.NO_INDEX, () -> library.repeat(-1, 5));
        Check.thrown("canBegin: slot before letter", Refused.NO_ELEMENT, () -> library.canBegin(5, 'd'));
        Check.thrown("canEnd: slot before letter", Refused.NO_ELEMENT, () -> library.canEnd(5, 'd'));
        Check.thrown("canBeAdjacent: slot before letters", Refused.NO_ELEMENT, () -> library.canBeAdjacent(5, 'd', 'd'));
        Check.thrown("matches: slot before word", Refused.NO_ELEMENT, () -> library.matches(5));
        Check.thrown("matchesBySpans: slot before word", Refused.NO_ELEMENT, () -> library.matchesBySpans(5));
        Check.thrown("longestPrefix: slot before word", Refused.NO_ELEMENT, () -> library.longestPrefix(5));
        Check.thrown("acceptsWord: slot before number", Refused.NO_ELEMENT, () -> library.acceptsWord(5, 8));
        Check.thrown("countWords: slot before length", Refused.NO_ELEMENT, () -> library.countWords(5, 7));
        Check.thrown("countWordsByListing: slot before length", Refused.NO_ELEMENT, () -> library.countWordsByListing(5, 7));
        Check.thrown("acceptedShare: slot before words", Refused.NO_ELEMENT, () -> library.acceptedShare(5));
        Check.thrown("define: pattern before size", Refused.ARGUMENT, () -> Use.define(Use.library(), 0, "aaaaaaaaaa|"));
        PatternLibrary full = Use.samples(new PatternLibrary(), "a", "a", "a", "a", "a", "a", "a", "a");
        Check.thrown("addWord: word before room", Refused.ARGUMENT, () -> Use.type(full, "d").addWord());
        Check.thrown("run: form before failing", Refused.ARGUMENT, () -> Use.run(full, "drop 0;drop"));
        Use.type(full, "a".repeat(60));
        Check.thrown("append: character before room", Refused.ARGUMENT, () -> full.append((char) 31));
    }
}
