import java.io.IOException;
import java.lang.reflect.Array;
import java.lang.reflect.Field;
import java.lang.reflect.Method;
import java.lang.reflect.Modifier;
import java.nio.file.Files;
import java.nio.file.Path;
import java.util.ArrayDeque;
import java.util.Collections;
import java.util.Deque;
import java.util.HashSet;
import java.util.IdentityHashMap;
import java.util.Set;
import java.util.regex.Matcher;
import java.util.regex.Pattern;

/** The rules of LANGUAGE.md that can be seen from the source's text or from the compiled class, and the room. */
public final class LanguageTest {
    private static final String FORBIDDEN = "\\b(throw|throws|try|catch|synchronized|assert|import|protected|var|yield"
            + "|hashCode|toString|Thread|Random|Object|Exception|Error)\\b|->|::|\\w+Exact\\(|static \\{|System\\.(?!arraycopy)"
            + "|\\b(double|float)\\b|@";
    private static final int CALLS_OF_A_RUN = 512;
    private static final int OBJECTS_IN_ALL = 600_000;
    private static final int FIELDS_IN_ALL = 7_300_000;

    private static int wrong;

    private LanguageTest() { }

    public static void main(String[] args) throws IOException, IllegalAccessException {
        String source = Files.readString(Path.of("src/main/java/NestedClips.java"));
        String code = bare(source);
        must(source.chars().allMatch(sign -> sign < 128), "signs above 127");
        Matcher forbidden = Pattern.compile(FORBIDDEN).matcher(code);
        while (forbidden.find()) {
            must(false, "forbidden: " + forbidden.group());
        }
        nestedClasses();
        methods(code);
        room();
        System.out.println(wrong == 0 ? "the rules are kept" : wrong + " rules are broken");
        System.exit(wrong == 0 ? 0 : 1);
    }

    private static void must(boolean holds, String what) {
        if (!holds) {
            wrong++;
            System.out.println(what);
        }
    }

    /** The code without comments, texts and signs. */
    private static String bare(String source) {
        return source.replaceAll("(?s)/\\*.*?\\*/", "").replaceAll("//[^\n]*", "")
                .replaceAll("\"[^\"\n]*\"", "\"\"").replaceAll("'.'", "' '");
    }

    private static Set<String> namesOfFace() {
        Set<String> names = new HashSet<>();
        for (Method method : NestedClips.class.getDeclaredMethods()) {
            if (Modifier.isPublic(method.getModifiers())) {
                names.add(method.getName());
            }
        }
        return names;
    }

    private static void noNameTwice(Class<?> one) {
        Set<String> face = namesOfFace();
        for (Method method : one.getDeclaredMethods()) {
            boolean ofFace = one == NestedClips.class && Modifier.isPublic(method.getModifiers());
            must(ofFace || !face.contains(method.getName()), method + " bears a name of the face");
        }
    }

    private static void nestedClasses() {
        Class<?>[] inside = NestedClips.class.getDeclaredClasses();
        must(inside.length <= 11, "too many classes");
        for (Class<?> one : inside) {
            must(Modifier.isStatic(one.getModifiers()), one + " is not static");
            fieldsOf(one);
            noNameTwice(one);
        }
        fieldsOf(NestedClips.class);
        noNameTwice(NestedClips.class);
    }

    private static void fieldsOf(Class<?> one) {
        int fields = 0;
        for (Field field : one.getDeclaredFields()) {
            boolean isStatic = Modifier.isStatic(field.getModifiers());
            fields += isStatic ? 0 : 1;
            must(!isStatic || Modifier.isFinal(field.getModifiers()), field + " is static and not final");
        }
        must(fields <= 20, one + " has too many fields");
        for (Method method : one.getDeclaredMethods()) {
            must(method.getParameterCount() <= 7, method + " takes too much");
        }
    }

    private static void methods(String code) {
        String[] lines = code.split("\n");
        int from = -1;
        String close = "";
        for (int i = 0; i < lines.length; i++) {
            boolean opens = lines[i].matches("\\s+[\\w\\[\\] ]+\\(.*\\) \\{") && !lines[i].matches("\\s+(if|for|while|switch|\\}).*");
            if (from < 0 && opens) {
                from = i;
                close = lines[i].replaceAll("\\S.*", "") + "}";
            } else if (from >= 0 && lines[i].equals(close)) {
                must(i - from <= 60, "too long: " + lines[from].trim());
                from = -1;
            }
        }
        must(from < 0, "a method has no end");
    }

    /** If every call of a run made a new object, all of them would still find room. */
    private static void room() throws IllegalAccessException {
        Set<Object> seen = Collections.newSetFromMap(new IdentityHashMap<>());
        Deque<Object> left = new ArrayDeque<>();
        left.add(new NestedClips());
        long fields = 0;
        while (!left.isEmpty()) {
            Object one = left.poll();
            if (!seen.add(one)) {
                continue;
            }
            if (one.getClass().isArray()) {
                fields += Array.getLength(one);
                for (int i = 0; i < Array.getLength(one) && one instanceof Object[]; i++) {
                    left.add(Array.get(one, i));
                }
                continue;
            }
            for (Field field : one.getClass().getDeclaredFields()) {
                if (!Modifier.isStatic(field.getModifiers())) {
                    fields++;
                    field.setAccessible(true);
                    if (!field.getType().isPrimitive()) {
                        left.add(field.get(one));
                    }
                }
            }
        }
        System.out.println("one object: " + seen.size() + " objects and arrays, " + fields + " fields and elements");
        must(seen.size() * CALLS_OF_A_RUN <= OBJECTS_IN_ALL, "too many objects");
        must(fields * CALLS_OF_A_RUN <= FIELDS_IN_ALL, "too many fields");
    }
}
