import java.util.Random;

/** Makes patterns for tests. */
final class Texts {
    private Texts() {
    }

    /** A pattern with that many letters and some signs, with parentheses also where they are not needed. */
    static String pattern(Random random, int letters) {
        String text;
        if (letters <= 1) {
            text = String.valueOf((char) ('a' + random.nextInt(random.nextBoolean() ? 2 : 3)));
        } else {
            int left = 1 + random.nextInt(letters - 1);
            text = pattern(random, left) + (random.nextInt(5) < 2 ? "|" : "") + pattern(random, letters - left);
        }
        if (random.nextInt(3) == 0) {
            text = "(" + text + ")";
        }
        char end = text.charAt(text.length() - 1);
        if (random.nextInt(3) == 0 && ")abc".indexOf(end) >= 0) {
            text += "*+?".charAt(random.nextInt(3));
        }
        return text;
    }
}
