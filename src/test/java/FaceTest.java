import java.lang.reflect.Constructor;
import java.lang.reflect.Field;
import java.lang.reflect.Member;
import java.lang.reflect.Method;
import java.lang.reflect.Modifier;
import java.nio.file.Files;
import java.nio.file.Path;
import java.util.ArrayList;
import java.util.List;
import java.util.TreeSet;
import java.util.regex.Matcher;
import java.util.regex.Pattern;

/** The class has exactly the face that the document shows, and no other member that can be seen from outside. */
final class FaceTest {
    private static final Path DOCUMENT = Path.of("../shared/DOC.md");

    private FaceTest() {
    }

    public static void main(String[] args) throws Exception {
        face();
        members();
        Check.finish("FaceTest");
    }

    private static void face() throws Exception {
        String document = Files.readString(DOCUMENT);
        int from = document.indexOf("```java");
        String shown = document.substring(from, document.indexOf("```", from + 7));
        TreeSet<String> due = new TreeSet<>();
        Matcher lines = Pattern.compile("    public (.*);").matcher(shown);
        while (lines.find()) {
            due.add(lines.group(1).replaceAll("(int|char) \\w+([,)])", "$1$2"));
        }
        TreeSet<String> got = new TreeSet<>();
        for (Constructor<?> constructor : PatternLibrary.class.getConstructors()) {
            got.add("PatternLibrary()" + thrown(constructor.getExceptionTypes()));
        }
        for (Method method : PatternLibrary.class.getDeclaredMethods()) {
            if (Modifier.isPublic(method.getModifiers())) {
                got.add(method.getReturnType() + " " + method.getName() + "(" + names(method.getParameterTypes()) + ")"
                    + thrown(method.getExceptionTypes()));
            }
        }
        Check.same("the face", got, due);
        Check.same("the class", Modifier.toString(PatternLibrary.class.getModifiers()), "public final");
    }

    private static String names(Class<?>[] types) {
        List<String> names = new ArrayList<>();
        for (Class<?> type : types) {
            names.add(type.getSimpleName());
        }
        return String.join(", ", names);
    }

    private static String thrown(Class<?>[] types) {
        return types.length == 0 ? "" : " throws " + names(types);
    }

    private static void members() {
        TreeSet<String> publicNames = new TreeSet<>();
        List<Member> members = new ArrayList<>(List.of(PatternLibrary.class.getDeclaredMethods()));
        members.addAll(List.of(PatternLibrary.class.getDeclaredFields()));
        for (Member member : members) {
            if (Modifier.isPublic(member.getModifiers())) {
                publicNames.add(member.getName());
            } else {
                Check.same(member.getName() + " is private", Modifier.isPrivate(member.getModifiers()), true);
            }
        }
        for (Method method : PatternLibrary.class.getDeclaredMethods()) {
            boolean hidden = Modifier.isPrivate(method.getModifiers());
            Check.same(method.getName() + " is no public name", hidden && publicNames.contains(method.getName()), false);
        }
        int classes = 1;
        for (Class<?> inner : PatternLibrary.class.getDeclaredClasses()) {
            classes++;
            Check.same(inner + " is static", Modifier.isStatic(inner.getModifiers()), true);
            Check.same(inner + " has some twenty fields", fields(inner) <= 20, true);
            for (Method method : inner.getDeclaredMethods()) {
                boolean hidden = Modifier.isPrivate(method.getModifiers());
                Check.same(inner + "." + method.getName() + " is no public name", hidden && publicNames.contains(method.getName()), false);
            }
        }
        Check.same("some twelve classes", classes <= 12, true);
        Check.same("some twenty fields", fields(PatternLibrary.class) <= 20, true);
    }

    private static int fields(Class<?> type) {
        int fields = 0;
        for (Field field : type.getDeclaredFields()) {
            if (Modifier.isStatic(field.getModifiers())) {
                Check.same(field + " is final", Modifier.isFinal(field.getModifiers()), true);
            } else {
                fields++;
            }
        }
        return fields;
    }
}
