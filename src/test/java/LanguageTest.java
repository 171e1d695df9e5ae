import java.io.IOException;
import java.lang.reflect.Constructor;
import java.lang.reflect.Field;
import java.lang.reflect.Method;
import java.lang.reflect.Modifier;
import java.nio.file.Files;
import java.nio.file.Path;
import java.util.Set;
import java.util.TreeSet;
import java.util.regex.Matcher;
import java.util.regex.Pattern;

/** The face of the document, and the rules of LANGUAGE.md that a test can look at. */
public final class LanguageTest {
    private static final Path SOURCE = Path.of("src/main/java/PassedDuties.java");
    private static final Check check = new Check();

    public static void main(String[] args) throws IOException {
        face();
        noPrivateMethodBearsAPublicName();
        staticFieldsAreFinal();
        words();
        check.end();
    }

    private static void face() {
        Set<String> want = new TreeSet<>(Set.of(
                "int letter(int)", "int blank()", "int fault()", "int terms()", "int reach(int,int)",
                "int two(int,int,int)", "int part(int)", "int give(int,int)", "int leave(int)"));
        want.addAll(Set.of(
                "int join(int,int,int)", "int kind(int,int)", "int of(int,int)", "int held(int,int)",
                "int way(int,int,int)", "int clash(int)", "int cause(int,int)", "int cure()",
                "int count(int)", "long digest()"));
        Set<String> got = new TreeSet<>();
        for (Method method : PassedDuties.class.getDeclaredMethods()) {
            if (!Modifier.isPrivate(method.getModifiers()) && !method.isSynthetic()) {
                check.holds("public: " + method, Modifier.isPublic(method.getModifiers()));
                check.holds("not static: " + method, !Modifier.isStatic(method.getModifiers()));
                got.add(signature(method));
            }
        }
        check.holds("the methods " + want + ", not " + got, want.equals(got));
        Set<String> fields = new TreeSet<>();
        for (Field field : PassedDuties.class.getDeclaredFields()) {
            if (!Modifier.isPrivate(field.getModifiers())) {
                fields.add(field.toString());
            }
        }
        Set<String> constants = new TreeSet<>();
        for (String name : new String[] {"NONE", "UNKNOWN", "OUTSIDE", "STATE", "FULL"}) {
            constants.add("public static final int PassedDuties." + name);
        }
        check.holds("the constants, not " + fields, fields.equals(constants));
        Constructor<?>[] made = PassedDuties.class.getDeclaredConstructors();
        check.holds("one constructor", made.length == 1 && made[0].getParameterCount() == 0
                && Modifier.isPublic(made[0].getModifiers()));
        int modifiers = PassedDuties.class.getModifiers();
        check.holds("public final", Modifier.isPublic(modifiers) && Modifier.isFinal(modifiers));
    }

    private static String signature(Method method) {
        StringBuilder text = new StringBuilder();
        for (Class<?> type : method.getParameterTypes()) {
            text.append(text.length() == 0 ? "" : ",").append(type.getName());
        }
        return method.getReturnType().getName() + " " + method.getName() + "(" + text + ")";
    }

    private static void noPrivateMethodBearsAPublicName() {
        Set<String> names = new TreeSet<>();
        for (Method method : PassedDuties.class.getMethods()) {
            names.add(method.getName());
        }
        for (Method method : PassedDuties.class.getDeclaredMethods()) {
            boolean hidden = !Modifier.isPublic(method.getModifiers());
            check.holds("name of its own: " + method, !hidden || !names.contains(method.getName()));
        }
        for (Class<?> inside : PassedDuties.class.getDeclaredClasses()) {
            for (Method method : inside.getDeclaredMethods()) {
                check.holds("name of its own: " + method, !names.contains(method.getName()));
                check.holds("parameters: " + method, method.getParameterCount() <= 7);
            }
        }
    }

    private static void staticFieldsAreFinal() {
        Class<?>[] classes = PassedDuties.class.getDeclaredClasses();
        check.holds("at most twelve classes", classes.length <= 11);
        for (Class<?> inside : classes) {
            check.holds("static: " + inside, Modifier.isStatic(inside.getModifiers()));
            check.holds("not public: " + inside, !Modifier.isPublic(inside.getModifiers()));
            finalIfStatic(inside);
        }
        finalIfStatic(PassedDuties.class);
    }

    private static void finalIfStatic(Class<?> owner) {
        for (Field field : owner.getDeclaredFields()) {
            int modifiers = field.getModifiers();
            check.holds("final: " + field, !Modifier.isStatic(modifiers) || Modifier.isFinal(modifiers));
        }
    }

    private static void words() throws IOException {
        String code = Files.readString(SOURCE)
                .replaceAll("(?s)/\\*.*?\\*/", " ")
                .replaceAll("//[^\n]*", " ");
        String[] none = {
            "\\b(throw|throws|try|catch|finally|synchronized|assert|volatile|transient|native)\\b",
            "->", "::", "\\bpackage\\b", "\\bnew [A-Za-z]+\\([^()]*\\)\\s*\\{", "\\bstatic\\s*\\{",
            "\\b(equals|hashCode|toString)\\b", "Exact\\b", "\\bSystem\\b", "\\bRandom\\b", "\\bObject\\b",
            "\"", "[^\\x00-\\x7f]", "\\b(HashMap|Map|Set|Collections|Thread|Long\\.valueOf)\\b",
        };
        for (String word : none) {
            Matcher found = Pattern.compile(word).matcher(code);
            check.holds("nothing like " + word, !found.find());
        }
        Matcher imports = Pattern.compile("import ([^;]*);").matcher(code);
        while (imports.find()) {
            check.holds("import " + imports.group(1), imports.group(1).equals("java.util.Arrays"));
        }
        Matcher library = Pattern.compile("\\b(Arrays|Integer|Long|Math)\\.(\\w+)").matcher(code);
        Set<String> allowed = Set.of("fill", "copyOf", "copyOfRange", "bitCount", "max", "min");
        while (library.find()) {
            check.holds("library: " + library.group(), allowed.contains(library.group(2)));
        }
    }
}
