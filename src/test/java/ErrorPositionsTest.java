import java.util.ArrayList;
import java.util.List;

/** Error positions, against the grammar: all short texts of some signs, and every character behind every part of a command. */
final class ErrorPositionsTest {
    private static final String SIGNS = "ab()|*?;";
    private static final int LONGEST = 5;
    private static final String[] COMMANDS = {"set 9=a(b|c)*c+b?", "or 0=1,2", "then 0=1,2", "star 0=1", "drop 0", "word abc", "cut 0"};

    private ErrorPositionsTest() {
    }

    public static void main(String[] args) {
        patterns();
        for (String command : COMMANDS) {
            programs("", command);
        }
        programs("word a;", "set 0=(a");
        Check.finish("ErrorPositionsTest");
    }

    private static void patterns() {
        List<String> texts = new ArrayList<>(List.of(""));
        for (int index = 0; index < texts.size(); index++) {
            String text = texts.get(index);
            pattern(text);
            for (int sign = 0; text.length() < LONGEST && sign < SIGNS.length(); sign++) {
                // A text with an error stays as it is: what follows behind an error does not move it.
                if (text.isEmpty() || Grammar.errorPosition(text, Grammar::isPattern, Grammar.PATTERN_ENDS) == text.length()) {
                    texts.add(text + SIGNS.charAt(sign));
                }
            }
        }
    }

    private static void pattern(String text) {
        PatternLibrary library = new PatternLibrary();
        boolean valid = Grammar.isPattern(text);
        String answer = Check.answer(() -> Use.define(library, 0, text));
        Check.same("define " + text, answer.equals("throws IllegalArgumentException"), !valid);
        String due = valid ? "throws NoSuchElementException"
            : String.valueOf(Grammar.errorPosition(text, Grammar::isPattern, Grammar.PATTERN_ENDS));
        Check.same("error position of " + text, Check.answer(library::errorPosition), due);
    }

    /** Each part of the command from its start on, and each character behind it. */
    private static void programs(String before, String command) {
        for (int length = 0; length <= command.length(); length++) {
            for (char next = ' '; next <= '~'; next++) {
                program(before + command.substring(0, length) + next);
            }
        }
    }

    private static void program(String text) {
        PatternLibrary library = new PatternLibrary();
        boolean valid = Grammar.isProgram(text);
        String answer = Check.answer(() -> Use.run(library, text));
        Check.same("run " + text, answer.equals("throws IllegalArgumentException"), !valid);
        String due = valid ? "throws NoSuchElementException"
            : String.valueOf(Grammar.errorPosition(text, Grammar::isProgram, Grammar.PROGRAM_ENDS));
        Check.same("error position of " + text, Check.answer(library::errorPosition), due);
    }
}
