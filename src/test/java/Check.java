import java.util.Objects;

/** Counts the answers that are not due, and tells them. */
final class Check {
    interface Call {
        Object make();
    }

    private static int made = 0;
    private static int wrong = 0;
    private static String place = "";

    private Check() {
    }

    /** What is checked from now on is told as being there. */
    static void at(String name) {
        place = name.isEmpty() ? "" : name + ": ";
    }

    static int made() {
        return made;
    }

    static void same(String what, Object got, Object due) {
        made++;
        if (!Objects.equals(got, due)) {
            wrong++;
            System.out.println(place + what + ": answered " + got + ", due is " + due);
        }
    }

    /** The answer of a call as a text: its value, or the exact class of what it throws. */
    static String answer(Call call) {
        try {
            return String.valueOf(call.make());
        } catch (Throwable thrown) {
            return "throws " + thrown.getClass().getSimpleName();
        }
    }

    static void thrown(String what, Class<? extends Exception> due, Call call) {
        same(what, answer(call), "throws " + due.getSimpleName());
    }

    static void finish(String test) {
        System.out.println(test + ": " + made + " checks, " + wrong + " wrong");
        if (wrong != 0 || made == 0) {
            System.exit(1);
        }
    }
}
