import java.util.ArrayList;
import java.util.List;

/** A pattern as a tree: of the kind '|' or '.' with many parts, of a sign with one, or a letter. */
record Tree(char kind, List<Tree> parts) {

    static boolean isPattern(String text) {
        return new Reader(text).wholePattern() != null;
    }

    static Tree parse(String text) {
        return new Reader(text).wholePattern();
    }

    int letters() {
        return parts.isEmpty() ? 1 : parts.stream().mapToInt(Tree::letters).sum();
    }

    int signs() {
        int own = kind == '*' || kind == '+' || kind == '?' ? 1 : 0;
        return own + parts.stream().mapToInt(Tree::signs).sum();
    }

    String text() {
        if (parts.isEmpty()) {
            return String.valueOf(kind);
        }
        StringBuilder text = new StringBuilder();
        if (kind == '|') {
            for (Tree part : parts) {
                text.append(text.length() == 0 ? "" : "|").append(part.text());
            }
        } else if (kind == '.') {
            for (Tree part : parts) {
                text.append(part.kind == '|' ? "(" + part.text() + ")" : part.text());
            }
        } else {
            Tree atom = parts.get(0);
            text.append(atom.parts.isEmpty() ? atom.text() : "(" + atom.text() + ")").append(kind);
        }
        return text.toString();
    }

    /** Reads by the grammar, rule by rule; null stands for what is not there. */
    private static final class Reader {
        private final String text;
        private int at = 0;

        Reader(String text) {
            this.text = text;
        }

        Tree wholePattern() {
            Tree tree = pattern();
            return at == text.length() ? tree : null;
        }

        private char next() {
            return at < text.length() ? text.charAt(at) : '$';
        }

        private Tree pattern() {
            List<Tree> branches = new ArrayList<>();
            do {
                Tree branch = branch();
                if (branch == null) {
                    return null;
                }
                branches.add(branch);
            } while (next() == '|' && at++ >= 0);
            return branches.size() == 1 ? branches.get(0) : new Tree('|', branches);
        }

        private Tree branch() {
            List<Tree> factors = new ArrayList<>();
            while ("abc(".indexOf(next()) >= 0) {
                Tree factor = factor();
                if (factor == null) {
                    return null;
                }
                factors.add(factor);
            }
            return factors.isEmpty() ? null : factors.size() == 1 ? factors.get(0) : new Tree('.', factors);
        }

        private Tree factor() {
            Tree atom = atom();
            if (atom == null || "*+?".indexOf(next()) < 0) {
                return atom;
            }
            at++;
            return new Tree(text.charAt(at - 1), List.of(atom));
        }

        private Tree atom() {
            char first = next();
            at++;
            if (first != '(') {
                return new Tree(first, List.of());
            }
            Tree inside = pattern();
            if (inside == null || next() != ')') {
                return null;
            }
            at++;
            return inside;
        }
    }
}
