import java.lang.reflect.InvocationTargetException;
import java.lang.reflect.Method;
import java.lang.reflect.Modifier;
import java.util.ArrayList;
import java.util.Comparator;
import java.util.List;
import java.util.Random;

/** Runs of 512 calls on a library and on the model at once, the same ones each time: their answers must agree. */
final class RandomRunsTest {
    private static final int RUNS = 400;
    private static final int CALLS = 512;

    private final Random random;
    private final PatternLibrary library = new PatternLibrary();
    private final Model model = new Model();
    private final StringBuilder told = new StringBuilder();
    private final List<Method> methods;
    private int calls = 0;

    private RandomRunsTest(int run, List<Method> methods) {
        this.random = new Random(run);
        this.methods = methods;
    }

    public static void main(String[] args) throws ReflectiveOperationException {
        List<Method> methods = new ArrayList<>();
        for (Method method : PatternLibrary.class.getDeclaredMethods()) {
            if (Modifier.isPublic(method.getModifiers())) {
                methods.add(method);
            }
        }
        methods.sort(Comparator.comparing(Method::getName));
        for (int run = 0; run < RUNS; run++) {
            new RandomRunsTest(run, methods).make(run);
        }
        Check.finish("RandomRunsTest");
    }

    private void make(int run) throws ReflectiveOperationException {
        boolean agrees = true;
        while (agrees && calls < CALLS) {
            agrees = step();
        }
        Check.same("run " + run + (agrees ? "" : told.toString()), agrees, true);
    }

    private boolean step() throws ReflectiveOperationException {
        switch (random.nextInt(12)) {
            case 0:
            case 1:
                return type(maybeSpoiled(Texts.pattern(random, 1 + random.nextInt(9)))) && call("define", slot());
            case 2:
                return type(maybeSpoiled(program())) && call("run");
            case 3:
                return type(maybeSpoiled(word(10))) && call("addWord");
            case 4:
                return type(word(14)) && call(random.nextBoolean() ? "matches" : "matchesBySpans", slot())
                    && call("longestPrefix", slot()) && call("clearBuffer");
            case 5:
                return call(random.nextBoolean() ? "unite" : "concatenate", slot(), slot(), slot());
            default:
                Method method = methods.get(random.nextInt(methods.size()));
                return call(method.getName(), arguments(method)) && (!method.getName().startsWith("format") || readLine());
        }
    }

    private boolean readLine() throws ReflectiveOperationException {
        for (int index = 0; index < 60 && index < CALLS - calls; index++) {
            if (!call("lineChar", index)) {
                return false;
            }
            if (told.toString().endsWith("throws IndexOutOfBoundsException")) {
                return true;
            }
        }
        return true;
    }

    private boolean type(String text) throws ReflectiveOperationException {
        for (char character : text.toCharArray()) {
            if (!call("append", character)) {
                return false;
            }
        }
        return true;
    }

    private boolean call(String name, Object... arguments) throws ReflectiveOperationException {
        // What calls beyond these answer is free.
        if (calls == CALLS) {
            return true;
        }
        calls++;
        Method method = null;
        for (Method one : methods) {
            method = one.getName().equals(name) ? one : method;
        }
        Method due = Model.class.getMethod(name, method.getParameterTypes());
        told.append('\n').append(name);
        for (Object argument : arguments) {
            told.append(' ').append(argument);
        }
        String dueAnswer = answer(due, model, arguments);
        String answer = answer(method, library, arguments);
        told.append(": ").append(answer);
        if (!answer.equals(dueAnswer)) {
            told.append(", due is ").append(dueAnswer);
        }
        return answer.equals(dueAnswer);
    }

    private static String answer(Method method, Object object, Object... arguments) throws ReflectiveOperationException {
        try {
            return String.valueOf(method.invoke(object, arguments));
        } catch (InvocationTargetException thrown) {
            return "throws " + thrown.getCause().getClass().getSimpleName();
        }
    }

    private Object[] arguments(Method method) {
        Class<?>[] types = method.getParameterTypes();
        Object[] arguments = new Object[types.length];
        for (int index = 0; index < types.length; index++) {
            if (types[index] == char.class) {
                arguments[index] = letter();
            } else {
                arguments[index] = slot();
            }
        }
        return arguments;
    }

    private int slot() {
        return switch (random.nextInt(40)) {
            case 0 -> -1;
            case 1 -> 6;
            case 2 -> 7;
            case 3 -> Integer.MIN_VALUE;
            case 4 -> Integer.MAX_VALUE;
            default -> random.nextInt(random.nextBoolean() ? 3 : 6);
        };
    }

    private char letter() {
        return switch (random.nextInt(20)) {
            case 0 -> 'd';
            case 1 -> '`';
            case 2 -> (char) random.nextInt(65536);
            case 3 -> '~';
            case 4 -> (char) 127;
            case 5 -> (char) 31;
            default -> (char) ('a' + random.nextInt(3));
        };
    }

    private String maybeSpoiled(String text) {
        if (random.nextInt(4) != 0) {
            return text;
        }
        StringBuilder spoiled = new StringBuilder(text);
        for (int times = random.nextInt(3); times >= 0 && spoiled.length() > 0; times--) {
            String signs = "abc()|*+?;=, 0159setorhnadpwcu";
            char sign = signs.charAt(random.nextInt(signs.length()));
            int at = random.nextInt(spoiled.length());
            switch (random.nextInt(4)) {
                case 0 -> spoiled.setCharAt(at, sign);
                case 1 -> spoiled.insert(at, sign);
                case 2 -> spoiled.deleteCharAt(at);
                default -> spoiled.setLength(at);
            }
        }
        return spoiled.toString();
    }

    private String word(int most) {
        StringBuilder word = new StringBuilder();
        for (int left = random.nextInt(most + 1); left > 0; left--) {
            word.append((char) ('a' + random.nextInt(3)));
        }
        return word.toString();
    }

    private String program() {
        StringBuilder program = new StringBuilder(command());
        while (random.nextInt(3) != 0 && program.length() < 50) {
            program.append(';').append(command());
        }
        return program.toString();
    }

    private String command() {
        return switch (random.nextInt(8)) {
            case 0 -> "or " + digit() + "=" + digit() + "," + digit();
            case 1 -> "then " + digit() + "=" + digit() + "," + digit();
            case 2 -> "star " + digit() + "=" + digit();
            case 3 -> "drop " + digit();
            case 4 -> "word " + (char) ('a' + random.nextInt(3)) + word(random.nextInt(4) == 0 ? 9 : 3);
            case 5 -> "cut " + digit();
            default -> "set " + digit() + "=" + Texts.pattern(random, 1 + random.nextInt(4));
        };
    }

    private int digit() {
        return random.nextInt(random.nextInt(5) == 0 ? 10 : 3);
    }
}
