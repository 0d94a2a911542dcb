import java.util.ArrayList;
import java.util.List;
import java.util.function.Predicate;

/** Which texts are valid, and where the others fail: behind the longest part that some ending makes valid. */
final class Grammar {
    static final List<String> PATTERN_ENDS = patternEnds();
    static final List<String> PROGRAM_ENDS = programEnds();

    private Grammar() {
    }

    static boolean isPattern(String text) {
        return Tree.isPattern(text);
    }

    static boolean isProgram(String text) {
        for (String command : text.split(";", -1)) {
            if (!isCommand(command)) {
                return false;
            }
        }
        return true;
    }

    static int errorPosition(String text, Predicate<String> isValid, List<String> ends) {
        for (int length = text.length(); length > 0; length--) {
            String part = text.substring(0, length);
            if (ends.stream().anyMatch(end -> isValid.test(part + end))) {
                return length;
            }
        }
        return 0;
    }

    private static boolean isCommand(String command) {
        if (command.matches("set [0-9]=.*")) {
            return isPattern(command.substring(6));
        }
        return command.matches("(or|then) [0-9]=[0-9],[0-9]|star [0-9]=[0-9]|(drop|cut) [0-9]|word [abc]+");
    }

    private static List<String> patternEnds() {
        List<String> ends = new ArrayList<>();
        for (int open = 0; open <= 60; open++) {
            ends.add(")".repeat(open));
            ends.add("a" + ")".repeat(open));
        }
        return ends;
    }

    private static List<String> programEnds() {
        List<String> ends = patternEnds();
        for (String command : List.of("set 0=a", "or 0=0,0", "then 0=0,0", "star 0=0", "drop 0", "word a", "cut 0")) {
            for (int from = 0; from < command.length(); from++) {
                ends.add(command.substring(from));
            }
        }
        return ends;
    }
}
