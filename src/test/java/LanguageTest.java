import java.io.IOException;
import java.lang.reflect.Array;
import java.lang.reflect.Constructor;
import java.lang.reflect.Field;
import java.lang.reflect.Method;
import java.lang.reflect.Modifier;
import java.nio.file.Files;
import java.nio.file.Path;
import java.util.ArrayList;
import java.util.Collections;
import java.util.IdentityHashMap;
import java.util.List;
import java.util.Map;
import java.util.Set;
import java.util.TreeMap;
import java.util.TreeSet;
import java.util.regex.Matcher;
import java.util.regex.Pattern;

/** The face of the document, and the rules of LANGUAGE.md that a test can look at. */
public final class LanguageTest {
    private static final Path SOURCE = Path.of("src/main/java/PassedDuties.java");
    private static final Pattern HEAD = Pattern.compile(
            "(?:^|\n) +(?:(?:public|private|static|final) )*(?:int|long|boolean|void) (\\w+)\\([^)]*\\) \\{");
    private static final Check check = new Check();

    public static void main(String[] args) throws IOException {
        face();
        noPrivateMethodBearsAPublicName();
        staticFieldsAreFinal();
        words();
        methodsAreShort();
        noRecursionAndEightDeep();
        objectsAreMadeByConstructorsAlone();
        theRoomOfOneObjectIsSmall(new PassedDuties());
        check.end();
    }

    private static void face() {
        Set<String> want = new TreeSet<>(Set.of(
                "int letter(int)", "int blank()", "int fault()", "int terms()", "int reach(int,int)",
                "int two(int,int,int)", "int part(int)", "int give(int,int)", "int leave(int)"));
        want.addAll(Set.of(
                "int join(int,int,int)", "int kind(int,int)", "int of(int,int)", "int held(int,int)",
                "int way(int,int,int)", "int clash(int)", "int cause(int,int)", "int cure()",
                "int count(int)", "long digest()"));
        Set<String> got = new TreeSet<>();
        for (Method method : PassedDuties.class.getDeclaredMethods()) {
            if (!Modifier.isPrivate(method.getModifiers()) && !method.isSynthetic()) {
                check.holds("public: " + method, Modifier.isPublic(method.getModifiers()));
                check.holds("not static: " + method, !Modifier.isStatic(method.getModifiers()));
                got.add(signature(method));
            }
        }
        check.holds("the methods " + want + ", not " + got, want.equals(got));
        Set<String> fields = new TreeSet<>();
        for (Field field : PassedDuties.class.getDeclaredFields()) {
            if (!Modifier.isPrivate(field.getModifiers())) {
                fields.add(field.toString());
            }
        }
        Set<String> constants = new TreeSet<>();
        for (String name : new String[] {"NONE", "UNKNOWN", "OUTSIDE", "STATE", "FULL"}) {
            constants.add("public static final int PassedDuties." + name);
        }
        check.holds("the constants, not " + fields, fields.equals(constants));
        Constructor<?>[] made = PassedDuties.class.getDeclaredConstructors();
        check.holds("one constructor", made.length == 1 && made[0].getParameterCount() == 0
                && Modifier.isPublic(made[0].getModifiers()));
        int modifiers = PassedDuties.class.getModifiers();
        check.holds("public final", Modifier.isPublic(modifiers) && Modifier.isFinal(modifiers));
    }

    private static String signature(Method method) {
        StringBuilder text = new StringBuilder();
        for (Class<?> type : method.getParameterTypes()) {
            text.append(text.length() == 0 ? "" : ",").append(type.getName());
        }
        return method.getReturnType().getName() + " " + method.getName() + "(" + text + ")";
    }

    private static void noPrivateMethodBearsAPublicName() {
        Set<String> names = new TreeSet<>();
        for (Method method : PassedDuties.class.getMethods()) {
            names.add(method.getName());
        }
        for (Method method : PassedDuties.class.getDeclaredMethods()) {
            boolean hidden = !Modifier.isPublic(method.getModifiers());
            check.holds("name of its own: " + method, !hidden || !names.contains(method.getName()));
        }
        for (Class<?> inside : PassedDuties.class.getDeclaredClasses()) {
            for (Method method : inside.getDeclaredMethods()) {
                check.holds("name of its own: " + method, !names.contains(method.getName()));
                check.holds("parameters: " + method, method.getParameterCount() <= 7);
            }
        }
    }

    private static void staticFieldsAreFinal() {
        Class<?>[] classes = PassedDuties.class.getDeclaredClasses();
        check.holds("at most twelve classes", classes.length <= 11);
        for (Class<?> inside : classes) {
            check.holds("static: " + inside, Modifier.isStatic(inside.getModifiers()));
            check.holds("not public: " + inside, !Modifier.isPublic(inside.getModifiers()));
            finalIfStatic(inside);
        }
        finalIfStatic(PassedDuties.class);
    }

    private static void finalIfStatic(Class<?> owner) {
        int fields = 0;
        for (Field field : owner.getDeclaredFields()) {
            int modifiers = field.getModifiers();
            check.holds("final: " + field, !Modifier.isStatic(modifiers) || Modifier.isFinal(modifiers));
            fields += Modifier.isStatic(modifiers) ? 0 : 1;
        }
        check.holds("some twenty fields at most: " + owner, fields <= 20);
    }

    private static String code() throws IOException {
        return Files.readString(SOURCE)
                .replaceAll("(?s)/\\*.*?\\*/", " ")
                .replaceAll("//[^\n]*", " ");
    }

    private static void words() throws IOException {
        String code = code();
        String[] none = {
            "\\b(throw|throws|try|catch|finally|synchronized|assert|volatile|transient|native)\\b",
            "->", "::", "\\bpackage\\b", "\\bnew [A-Za-z]+\\([^()]*\\)\\s*\\{", "\\bstatic\\s*\\{",
            "\\b(equals|hashCode|toString)\\b", "Exact\\b", "\\bSystem\\b", "\\bRandom\\b", "\\bObject\\b",
            "\"", "[^\\x00-\\x7f]", "\\b(HashMap|Map|Set|Collections|Thread|Long\\.valueOf)\\b",
        };
        for (String word : none) {
            Matcher found = Pattern.compile(word).matcher(code);
            check.holds("nothing like " + word, !found.find());
        }
        Matcher imports = Pattern.compile("import ([^;]*);").matcher(code);
        while (imports.find()) {
            check.holds("import " + imports.group(1), imports.group(1).equals("java.util.Arrays"));
        }
        Matcher library = Pattern.compile("\\b(Arrays|Integer|Long|Math)\\.(\\w+)").matcher(code);
        Set<String> allowed = Set.of("fill", "copyOf", "copyOfRange", "bitCount", "max", "min");
        while (library.find()) {
            check.holds("library: " + library.group(), allowed.contains(library.group(2)));
        }
    }

    /** The bodies of all methods; those of like names are put together, which finds more, not less. */
    private static Map<String, List<String>> bodies() throws IOException {
        String code = code();
        Map<String, List<String>> bodies = new TreeMap<>();
        Matcher head = HEAD.matcher(code);
        while (head.find()) {
            bodies.computeIfAbsent(head.group(1), name -> new ArrayList<>())
                    .add(code.substring(head.end(), closing(code, head.end())));
        }
        check.holds("the methods of the face are among those that were found",
                bodies.containsKey("letter") && bodies.containsKey("digest"));
        return bodies;
    }

    private static int closing(String code, int from) {
        int open = 1;
        int place = from;
        while (place < code.length() && open > 0) {
            open += code.charAt(place) == '{' ? 1 : code.charAt(place) == '}' ? -1 : 0;
            place++;
        }
        return place;
    }

    private static void methodsAreShort() throws IOException {
        for (Map.Entry<String, List<String>> method : bodies().entrySet()) {
            for (String body : method.getValue()) {
                check.holds("short: " + method.getKey(), body.lines().count() <= 60);
            }
        }
    }

    private static void noRecursionAndEightDeep() throws IOException {
        Map<String, List<String>> bodies = bodies();
        for (String name : bodies.keySet()) {
            int deep = deep(name, bodies, List.of());
            check.holds("eight deep at most, not " + deep + ": " + name, deep <= 8);
        }
    }

    private static int deep(String name, Map<String, List<String>> bodies, List<String> open) {
        check.holds("no recursion: " + open + " " + name, !open.contains(name));
        if (open.contains(name)) {
            return Integer.MAX_VALUE / 2;
        }
        List<String> opened = new ArrayList<>(open);
        opened.add(name);
        int deepest = 0;
        for (String body : bodies.get(name)) {
            Matcher call = Pattern.compile("\\b(\\w+)\\(").matcher(body);
            while (call.find()) {
                if (bodies.containsKey(call.group(1))) {
                    deepest = Math.max(deepest, deep(call.group(1), bodies, opened));
                }
            }
        }
        return deepest + 1;
    }

    private static void objectsAreMadeByConstructorsAlone() throws IOException {
        for (Map.Entry<String, List<String>> method : bodies().entrySet()) {
            for (String body : method.getValue()) {
                boolean makes = Pattern.compile("\\bnew\\b|\\bcopyOf|\\bclone\\b").matcher(body).find();
                check.holds("makes no object: " + method.getKey(), !makes);
            }
        }
    }

    /** All objects of a run live in one room of 600,000; a run may well use a thousand of these. */
    private static void theRoomOfOneObjectIsSmall(PassedDuties x) {
        Set<Object> found = Collections.newSetFromMap(new IdentityHashMap<>());
        int elements = elements(x, found);
        check.holds("few objects, not " + found.size(), found.size() <= 20);
        check.holds("few elements, not " + elements, elements <= 1000);
    }

    private static int elements(Object object, Set<Object> found) {
        if (object == null || !found.add(object)) {
            return 0;
        }
        if (object.getClass().isArray()) {
            return Array.getLength(object);
        }
        int elements = 0;
        for (Field field : object.getClass().getDeclaredFields()) {
            if (!Modifier.isStatic(field.getModifiers())) {
                elements += 1 + (field.getType().isPrimitive() ? 0 : elements(read(field, object), found));
            }
        }
        return elements;
    }

    private static Object read(Field field, Object object) {
        try {
            field.setAccessible(true);
            return field.get(object);
        } catch (IllegalAccessException refused) {
            check.holds("can be looked at: " + field, false);
            return null;
        }
    }
}
