import java.util.function.Supplier;

/** Tests for the sentences of promises 46 to 54: the buffer, programs, and undoing, saving and restoring. */
final class TextSentences {
    private final Sentences document;

    TextSentences(Sentences document) {
        this.document = document;
    }

    void tell() {
        append();
        clearBuffer();
        run();
        errorPosition();
        failedCommand();
        undoableCount();
        undo();
        save();
        restore();
    }

    private void append() {
        document.under("Promise 46: append");
        document.says("Appends a character to the buffer.", () -> {
            PatternLibrary library = Use.type(new PatternLibrary(), "ca");
            library.append('b');
            Check.same("addWord", library.addWord(), 0);
            Check.same("of all in order", Use.word(library, 0), "cab");
            library.append('a');
            Check.thrown("a refused character", Refused.ARGUMENT, () -> library.append((char) 127));
            library.append('b');
            library.addWord();
            Check.same("without the refused one", Use.word(library, 1), "ab");
        });
        document.says("- `character`: the character", () -> {
            for (char character = ' '; character <= '~'; character++) {
                PatternLibrary library = new PatternLibrary();
                Check.same("append " + character, library.append(character), 1);
                boolean letter = character >= 'a' && character <= 'c';
                Check.same("it is kept", Check.answer(library::addWord), letter ? "0" : "throws IllegalArgumentException");
            }
        });
        document.says("Returns the number of characters in the buffer.", () -> {
            PatternLibrary library = new PatternLibrary();
            for (int count = 1; count <= 60; count++) {
                Check.same("append", library.append((char) (' ' + count)), count);
            }
            library.clearBuffer();
            Check.same("append after clearBuffer", library.append('a'), 1);
            library.define(0);
            Check.same("append after define", library.append('a'), 1);
        });
        document.says("Throws `IllegalArgumentException` if the character is not in the range from ' ' to '~'", () -> {
            Check.same("the first one", Refused.used().append(' '), 3);
            Check.same("the last one", Refused.used().append('~'), 3);
            for (int number : new int[] {31, 127, 0, 9, 10, 128, 255, 256, 353, 65535}) {
                char character = (char) number;
                Refused.call("append " + number, Refused.ARGUMENT, Refused::used, library -> library.append(character));
                Supplier<PatternLibrary> full = () -> Use.type(Refused.used(), "a".repeat(58));
                Refused.call("append to 60 " + number, Refused.ARGUMENT, full, library -> library.append(character));
            }
        });
        document.says("Throws `IllegalStateException` if the buffer contains 60 characters", () -> {
            Check.same("the 60th", Use.type(Refused.used(), "a".repeat(57)).append('a'), 60);
            for (char character : new char[] {'a', ' ', '~'}) {
                Supplier<PatternLibrary> full = () -> Use.type(Refused.used(), "a".repeat(58));
                Refused.call("a 61st " + character, Refused.STATE, full, library -> library.append(character));
            }
            PatternLibrary cleared = Use.type(new PatternLibrary(), "a".repeat(60));
            Check.same("clearBuffer", cleared.clearBuffer(), 60);
            Check.same("append to a cleared buffer", cleared.append('a'), 1);
        });
    }

    private void clearBuffer() {
        document.under("Promise 47: clearBuffer");
        document.says("Removes all characters of the buffer.", () -> {
            PatternLibrary library = Use.type(new PatternLibrary(), "abc");
            library.clearBuffer();
            Check.same("nothing is left", library.clearBuffer(), 0);
            Check.same("append", library.append('b'), 1);
            Check.same("addWord", library.addWord(), 0);
            Check.same("of the new one alone", Use.word(library, 0), "b");
            PatternLibrary used = Refused.used();
            used.clearBuffer();
            Check.same("the rest stays", Use.everything(Use.type(used, "ba")), Use.everything(Refused.used()));
        });
        document.says("Returns the number of characters that it contained.", () -> {
            for (int count = 0; count <= 60; count++) {
                Check.same("of " + count, Use.type(new PatternLibrary(), "?".repeat(count)).clearBuffer(), count);
            }
        });
    }

    private void run() {
        document.under("Promise 48: run");
        document.says("Parses the contents of the buffer as a program and executes it.", () -> {
            PatternLibrary library = new PatternLibrary();
            Use.run(library, "set 0=a(b|c)*");
            Check.same("set", Use.shelf(library), "a(b|c)* - - - - - 1 put");
            Use.run(library, "set 1=b;or 2=0,1;then 3=1,1;star 4=1");
            Check.same("or, then and star", Use.shelf(library), "a(b|c)* b a(b|c)*|b bb b* - 5 put");
            Use.run(library, "word abc;word c;cut 0;drop 0;drop 4");
            Check.same("word, cut and drop", Use.shelf(library), "- b a(b|c)*|b bb - - \"c\" 5 put");
            Use.run(library, "star 1=1;star 1=1;word abcabcab;cut 0");
            Check.same("one after the other", Use.shelf(library), "- (b*)* a(b|c)*|b bb - - \"abcabcab\" 7 put");
        });
        document.says("Either all commands are executed or none.", TextSentences::allOrNone);
        document.says("The buffer is empty afterwards, even if an exception is thrown.", () -> {
            PatternLibrary library = Use.library("a");
            Use.run(library, "star 0=0");
            Check.same("after a program", library.clearBuffer(), 0);
            Check.thrown("malformed", Refused.ARGUMENT, () -> Use.run(library, "star 0"));
            Check.same("after a malformed one", library.clearBuffer(), 0);
            Check.thrown("failing", Refused.STATE, () -> Use.run(library, "drop 0;drop 0"));
            Check.same("after a failing one", library.clearBuffer(), 0);
        });
        document.says("Returns the number of commands.", () -> {
            Check.same("of 1", Use.run(new PatternLibrary(), "set 5=c"), 1);
            Check.same("of 2", Use.run(new PatternLibrary(), "word a;word a"), 2);
            Check.same("of 8", Use.run(new PatternLibrary(), "word a" + ";word a".repeat(7)), 8);
            Check.same("of 10", Use.run(eightWords(), "cut 0;".repeat(8) + "word b;cut 0"), 10);
        });
        malformedPrograms();
        document.says("Throws `IllegalStateException` if a command fails: if the method for it would throw an exception, or a pattern is too large; "
            + "the index of this command, starting at 0, is stored", TextSentences::failingPrograms);
    }

    private static void allOrNone() {
        String before = "a b* - - - - \"ab\" \"c\" 2 put";
        for (String program : new String[] {"set 5=c;drop 4", "or 0=0,1;then 1=1,1;star 2=0;cut 2", "word a;cut 0;cut 0;cut 0;cut 0",
                "drop 0;drop 1;cut 0;cut 0;set 0=b;drop 1", "set 0=c;word a;set 1=abcabcab", "drop 0;set 0=a;word abcabcabc"}) {
            PatternLibrary library = Use.samples(Use.library("a", "b*"), "ab", "c");
            Check.thrown("run " + program, Refused.STATE, () -> Use.run(library, program));
            Check.same("none of " + program, Use.shelf(library), before);
            Check.same("changes after " + program, library.undoableCount(), 4);
            library.undo();
            Check.same("undo after " + program, Use.shelf(library), "a b* - - - - \"ab\" 2 put");
        }
        PatternLibrary library = Use.samples(Use.library("a", "b*"), "ab", "c");
        Use.run(library, "or 0=0,1;then 1=1,1;star 2=0;cut 1;word bb");
        Check.same("all", Use.shelf(library), "a|b* b*b* (a|b*)* - - - \"ab\" \"bb\" 5 put");
        Check.same("they are one change", library.undo(), 4);
        Check.same("undone", Use.shelf(library), before);
        Check.thrown("malformed at its end", Refused.ARGUMENT, () -> Use.run(library, "drop 0;drop 1;"));
        Check.same("none of a malformed one", Use.shelf(library), before);
    }

    private void malformedPrograms() {
        document.says("Throws `IllegalArgumentException` if the program is malformed; the error position is stored", () -> {
            String[] texts = {"", "drop", "drop 0;", "drop 0;drop 1;dro", "drop 5;drop", "set 0=a**;drop 0", "set 0=abcabcab|", "word abcabcabcd",
                " drop 0", "drop 0 ", "cut 10", "DROP 0", "(".repeat(60), "set 0=" + "a".repeat(53) + "|"};
            int[] positions = {0, 4, 7, 17, 11, 8, 15, 14, 0, 6, 5, 0, 0, 60};
            for (int index = 0; index < texts.length; index++) {
                String text = texts[index];
                PatternLibrary library = Use.samples(Use.library("a", "b*"), "ab");
                Check.thrown("run " + text, Refused.ARGUMENT, () -> Use.run(library, text));
                Check.same("the error position of " + text, library.errorPosition(), positions[index]);
                Check.thrown("no failed command in " + text, Refused.NO_ELEMENT, library::failedCommand);
                Check.same("shelf after " + text, Use.shelf(library), "a b* - - - - \"ab\" 2 put");
                Check.same("changes after " + text, library.undoableCount(), 3);
            }
        });
    }

    private static void failingPrograms() {
        failing(0, "set 6=a", "set 9=a", "set 1=aaaaaaaa", "set 1=(((((((((a*)*)*)*)*)*)*)*)*)*", "set 0=" + "a".repeat(54));
        failing(0, "or 6=0,0", "or 0=6,0", "or 0=0,9", "or 0=1,0", "or 0=0,1", "or 1=1,1", "or 1=2,2", "or 1=0,2", "or 1=3,4");
        failing(0, "then 6=0,0", "then 0=6,0", "then 0=0,9", "then 0=1,0", "then 0=0,1", "then 1=1,1", "then 1=2,2", "then 1=0,2", "then 1=3,4");
        failing(0, "star 6=0", "star 0=6", "star 0=9", "star 0=1", "star 1=1", "star 1=3");
        failing(0, "drop 1", "drop 6", "drop 9", "cut 2", "cut 9", "word aaaaaaaaa", "word " + "c".repeat(55));
        failing(1, "set 1=a;set 6=a", "drop 0;star 1=0", "cut 1;cut 1", "word a;word abcabcabc", "set 1=a;or 1=2,1",
            "drop 0;drop 0", "star 3=4;cut 2");
        failing(5, "cut 0;cut 0;drop 0;word a;set 1=b;drop 0");
        failing(6, "word a;word a;word a;word a;word a;word a;word a", "word a;word a;word a;word a;word a;word a;word a;drop 1");
        PatternLibrary full = eightWords();
        Check.thrown("run of 10 commands", Refused.STATE, () -> Use.run(full, "cut 0;".repeat(8) + "word a;cut 1"));
        Check.same("the last one failed", full.failedCommand(), 9);
        Check.same("no word is cut", full.wordCount(), 8);
    }

    private static PatternLibrary eightWords() {
        return Use.samples(new PatternLibrary(), "a", "b", "c", "a", "b", "c", "a", "b");
    }

    /** Each program fails at that command; slot 0 holds a, 2 7 letters, 3 9 signs and 4 one more letter with a sign. */
    private static void failing(int index, String... programs) {
        for (String program : programs) {
            PatternLibrary library = Use.samples(Use.library("a", null, "abcabca", "((((((((b*)*)*)*)*)*)*)*)*", "c+"), "a", "b");
            String before = Use.shelf(library);
            Check.thrown("run " + program, Refused.STATE, () -> Use.run(library, program));
            Check.same("failed command of " + program, library.failedCommand(), index);
            Check.thrown("no error in " + program, Refused.NO_ELEMENT, library::errorPosition);
            Check.same("shelf after " + program, Use.shelf(library), before);
            Check.same("changes after " + program, library.undoableCount(), 6);
            Check.same("buffer after " + program, library.clearBuffer(), 0);
        }
    }

    private void errorPosition() {
        document.under("Promise 49: errorPosition");
        document.says("Returns the stored error position.", () -> {
            PatternLibrary library = Use.library("a");
            Check.thrown("malformed at once", Refused.ARGUMENT, () -> Use.define(library, 0, ")"));
            Check.same("the first position", library.errorPosition(), 0);
            Check.same("it stays stored", library.errorPosition(), 0);
            Check.thrown("malformed at its end", Refused.ARGUMENT, () -> Use.define(library, 0, "(".repeat(60)));
            Check.same("the last position", library.errorPosition(), 60);
            Queries.leaves(PatternLibrary::errorPosition);
        });
        document.says("Returns the error position of the latest malformed pattern or program.", () -> {
            PatternLibrary library = Use.library("a");
            Check.thrown("pattern", Refused.ARGUMENT, () -> Use.define(library, 0, "a|"));
            Check.same("of a pattern", library.errorPosition(), 2);
            Check.thrown("program", Refused.ARGUMENT, () -> Use.run(library, "drop"));
            Check.same("of a program", library.errorPosition(), 4);
            Check.thrown("another pattern", Refused.ARGUMENT, () -> Use.define(library, 0, "a)"));
            Check.same("of another pattern", library.errorPosition(), 1);
            positionStays(library);
        });
        document.says("Throws `NoSuchElementException` if nothing was malformed so far", () -> {
            Refused.call("of a new library", Refused.NO_ELEMENT, PatternLibrary::new, PatternLibrary::errorPosition);
            Refused.call("of what was not malformed", Refused.NO_ELEMENT, TextSentences::refusedOtherwise, PatternLibrary::errorPosition);
        });
    }

    /** A library in which much was refused, but nothing as malformed. */
    private static PatternLibrary refusedOtherwise() {
        PatternLibrary library = Use.samples(Use.library("a"), "a");
        Check.thrown("too large", Refused.STATE, () -> Use.define(library, 0, "abcabcab"));
        Check.thrown("no word", Refused.ARGUMENT, () -> Use.type(library, "|").addWord());
        Check.thrown("no slot", Refused.NO_INDEX, () -> Use.type(library, "|").define(6));
        Check.thrown("no word to match", Refused.ARGUMENT, () -> library.matches(0));
        library.clearBuffer();
        Check.thrown("failing", Refused.STATE, () -> Use.run(library, "drop 1"));
        Use.run(library, "drop 0");
        return library;
    }

    /** What is not malformed leaves the stored error position, which is 1. */
    private static void positionStays(PatternLibrary library) {
        Use.define(library, 0, "ab");
        Check.same("after a pattern", library.errorPosition(), 1);
        Use.run(library, "set 1=abc");
        Check.same("after a program", library.errorPosition(), 1);
        Check.thrown("failing", Refused.STATE, () -> Use.run(library, "drop 5"));
        Check.same("after a failing program", library.errorPosition(), 1);
        Check.thrown("too large", Refused.STATE, () -> Use.define(library, 0, "abcabcab"));
        Check.same("after too large a pattern", library.errorPosition(), 1);
        Check.thrown("no word", Refused.ARGUMENT, () -> Use.type(library, "abc|").addWord());
        Check.same("after no word", library.errorPosition(), 1);
        Check.thrown("no slot", Refused.NO_INDEX, () -> Use.type(library, "abc|").define(6));
        Check.same("after no slot", library.errorPosition(), 1);
        library.clearBuffer();
        library.save();
        library.undo();
        library.restore();
        Check.same("after undo and restore", library.errorPosition(), 1);
    }

    private void failedCommand() {
        document.under("Promise 50: failedCommand");
        document.says("Returns the stored index of a failed command.", () -> {
            PatternLibrary library = Use.library("a");
            Check.thrown("the first one", Refused.STATE, () -> Use.run(library, "drop 1;drop 0"));
            Check.same("index 0", library.failedCommand(), 0);
            Check.same("it stays stored", library.failedCommand(), 0);
            PatternLibrary words = eightWords();
            Check.thrown("the tenth one", Refused.STATE, () -> Use.run(words, "cut 0;".repeat(8) + "word a;cut 1"));
            Check.same("index 9", words.failedCommand(), 9);
            Queries.leaves(PatternLibrary::failedCommand);
        });
        document.says("Returns the index of the latest command that failed.", () -> {
            PatternLibrary library = Use.library("a");
            Check.thrown("run", Refused.STATE, () -> Use.run(library, "set 0=a;word a;drop 1"));
            Check.same("the third one", library.failedCommand(), 2);
            Check.thrown("malformed", Refused.ARGUMENT, () -> Use.run(library, "drop"));
            Check.same("after a malformed program", library.failedCommand(), 2);
            Use.run(library, "set 0=a");
            Check.same("after a program", library.failedCommand(), 2);
            library.save();
            library.undo();
            library.restore();
            Check.same("after undo and restore", library.failedCommand(), 2);
            Check.thrown("a method", Refused.NO_ELEMENT, () -> library.remove(1));
            Check.same("after a method", library.failedCommand(), 2);
            Check.thrown("another run", Refused.STATE, () -> Use.run(library, "drop 0;drop 0"));
            Check.same("the second one", library.failedCommand(), 1);
        });
        document.says("Throws `NoSuchElementException` if no command failed so far", () -> {
            Refused.call("of a new library", Refused.NO_ELEMENT, PatternLibrary::new, PatternLibrary::failedCommand);
            Refused.call("of what did not fail", Refused.NO_ELEMENT, () -> {
                PatternLibrary library = Use.library("a");
                Use.run(library, "drop 0");
                Check.thrown("malformed", Refused.ARGUMENT, () -> Use.run(library, "drop 1;drop"));
                Check.thrown("a method", Refused.NO_ELEMENT, () -> library.remove(1));
                return library;
            }, PatternLibrary::failedCommand);
        });
    }

    private void undoableCount() {
        document.under("Promise 51: undoableCount");
        document.says("Returns the number of changes that can be undone.", () -> {
            PatternLibrary library = Use.library("a", "b");
            Check.same("of two", library.undoableCount(), 2);
            Check.thrown("a refused call", Refused.NO_ELEMENT, () -> library.repeat(0, 5));
            library.formatPattern(0);
            library.append('a');
            library.save();
            Check.same("of two still", library.undoableCount(), 2);
            library.undo();
            Check.same("after undo", library.undoableCount(), 1);
            library.clearBuffer();
            Use.samples(library, "a");
            Check.same("after one more", library.undoableCount(), 2);
            library.restore();
            Check.same("after restore", library.undoableCount(), 0);
            Queries.leaves(PatternLibrary::undoableCount);
        });
        document.says("Returns the number, 0 to 8.", () -> {
            PatternLibrary library = new PatternLibrary();
            Check.same("at first", library.undoableCount(), 0);
            for (int count = 1; count <= 20; count++) {
                Use.define(library, count % 6, "a");
                Check.same("after " + count, library.undoableCount(), Math.min(count, 8));
            }
            for (int left = 7; left >= 0; left--) {
                library.undo();
                Check.same("after undo", library.undoableCount(), left);
            }
            Check.thrown("no more", Refused.STATE, library::undo);
            Check.same("after a refused undo", library.undoableCount(), 0);
        });
    }

    private void undo() {
        document.under("Promise 52: undo");
        document.says("Undoes the latest change that has not been undone.", () -> {
            PatternLibrary library = Use.library("a", "b");
            Use.samples(library, "a", "b");
            library.removeWord(0);
            library.remove(0);
            Use.run(library, "set 0=c;word c");
            String[] dues = {"- b - - - - \"b\" 2 put", "a b - - - - \"b\" 2 put", "a b - - - - \"a\" \"b\" 2 put", "a b - - - - \"a\" 2 put",
                "a b - - - - 2 put", "a - - - - - 1 put", "- - - - - - 0 put"};
            for (String due : dues) {
                library.undo();
                Check.same("undone", Use.shelf(library), due);
            }
            Use.define(library, 0, "ab");
            Use.define(library, 0, "ac");
            library.undo();
            Use.define(library, 1, "bc");
            library.undo();
            Check.same("a change after undo", Use.shelf(library), "ab - - - - - 1 put");
            library.undo();
            Check.same("the change before it", Use.shelf(library), "- - - - - - 0 put");
        });
        document.says("Returns the number of changes that can still be undone.", () -> {
            PatternLibrary library = new PatternLibrary();
            for (int count = 0; count < 12; count++) {
                Use.define(library, 0, "abc".substring(0, 1 + count % 3));
            }
            for (int left = 7; left >= 0; left--) {
                Check.same("undo", library.undo(), left);
            }
            Check.same("four of 12 stay", Use.shelf(library), "a - - - - - 4 put");
            Use.define(library, 0, "b");
            Check.same("undo of one", library.undo(), 0);
        });
        document.says("Throws `IllegalStateException` if no change can be undone", () -> {
            Refused.call("of a new library", Refused.STATE, PatternLibrary::new, PatternLibrary::undo);
            Refused.call("of a second", Refused.STATE, () -> {
                PatternLibrary library = Use.library("a");
                Check.same("of one", library.undo(), 0);
                return library;
            }, PatternLibrary::undo);
            Refused.call("after restore", Refused.STATE, () -> {
                PatternLibrary library = Use.library("a", "b");
                library.save();
                Use.define(library, 0, "c");
                library.restore();
                return library;
            }, PatternLibrary::undo);
            PatternLibrary many = new PatternLibrary();
            for (int count = 0; count < 9; count++) {
                Use.define(many, 0, "abcabca".substring(0, 1 + count % 7));
            }
            for (int count = 0; count < 8; count++) {
                many.undo();
            }
            Check.thrown("of a ninth", Refused.STATE, many::undo);
            Check.same("which stays", Use.shelf(many), "a - - - - - 1 put");
        });
    }

    private void save() {
        document.under("Promise 53: save");
        document.says("Saves a copy of everything that changes can change, replacing an earlier copy.", () -> {
            PatternLibrary library = Use.library("a", null, "b*", null, null, "c");
            Use.samples(library, "ab", "c");
            library.save();
            String saved = "a - b* - - c \"ab\" \"c\" 3 put";
            Use.run(library, "drop 0;set 1=c;star 2=2;cut 0;word cc;drop 5");
            library.restore();
            Check.same("the copy", Use.shelf(library), saved);
            library.removeWord(0);
            library.save();
            Use.define(library, 0, "bb");
            library.restore();
            Check.same("the later copy", Use.shelf(library), "a - b* - - c \"c\" 3 put");
            PatternLibrary used = Refused.used();
            used.save();
            Check.same("no change, line, error, failure or buffer is affected", Use.everything(used).replaceAll("restore.*", ""),
                Use.everything(Refused.used()).replaceAll("restore.*", ""));
        });
        document.says("Returns the number of patterns.", () -> {
            PatternLibrary library = new PatternLibrary();
            Check.same("of none", library.save(), 0);
            for (int count = 1; count <= 6; count++) {
                Use.define(library, count - 1, "a");
                Check.same("of " + count, library.save(), count);
            }
            library.remove(3);
            Check.same("of five", library.save(), 5);
        });
    }

    private void restore() {
        document.under("Promise 54: restore");
        document.says("Restores the saved copy, which stays available.", () -> {
            PatternLibrary library = Use.library("a", null, "b");
            Use.samples(library, "ab");
            library.save();
            String saved = "a - b - - - \"ab\" 2 put";
            for (String program : new String[] {"set 0=c", "drop 0;drop 2", "cut 0", "word a;word b;set 5=c", "star 0=0;star 1=0;star 2=0"}) {
                Use.run(library, program);
                library.restore();
                Check.same("after " + program, Use.shelf(library), saved);
                library.restore();
                Check.same("and again", Use.shelf(library), saved);
            }
            PatternLibrary nothing = new PatternLibrary();
            nothing.save();
            Use.samples(nothing, "a");
            Use.define(nothing, 0, "a");
            nothing.restore();
            Check.same("nothing is restored", Use.shelf(nothing), "- - - - - - 0 put");
            restLeft();
        });
        document.says("No changes can be undone afterwards.", () -> {
            PatternLibrary library = Use.library("a", "b", "c", "a", "b", "c");
            library.save();
            Use.run(library, "drop 0");
            Use.run(library, "drop 1");
            Use.define(library, 0, "b");
            Check.same("changes before it", library.undoableCount(), 8);
            library.restore();
            Check.same("undoableCount", library.undoableCount(), 0);
            Check.thrown("undo", Refused.STATE, library::undo);
            library.remove(0);
            Check.same("a change after it", library.undoableCount(), 1);
            Check.same("is undone", library.undo(), 0);
            Check.thrown("undo of one more", Refused.STATE, library::undo);
        });
        document.says("Returns the number of patterns.", () -> {
            PatternLibrary library = new PatternLibrary();
            for (int count = 0; count <= 6; count++) {
                library.save();
                Use.define(library, 0, "b");
                Check.same("of " + count, library.restore(), count);
                if (count < 6) {
                    Use.define(library, 5 - count, "a");
                }
            }
        });
        document.says("Throws `IllegalStateException` if there is no saved copy", () -> {
            Refused.call("of a new library", Refused.STATE, PatternLibrary::new, PatternLibrary::restore);
            Refused.call("of a used library", Refused.STATE, () -> Use.type(Use.samples(Use.library("a", "b"), "c"), "ab"), PatternLibrary::restore);
            PatternLibrary library = new PatternLibrary();
            library.save();
            Check.same("of a saved library", library.restore(), 0);
        });
    }

    /** Restoring leaves what is not in the copy. */
    private static void restLeft() {
        PatternLibrary library = Use.type(Refused.used(), "c");
        library.restore();
        Check.same("the line", Use.line(library), "a*b");
        Check.same("the error position", library.errorPosition(), 2);
        Check.same("the failed command", library.failedCommand(), 1);
        Check.same("the buffer", Use.bufferedWord(library), "bac");
    }
}
