import java.lang.reflect.Constructor;
import java.lang.reflect.Field;
import java.lang.reflect.Method;
import java.lang.reflect.Modifier;
import java.util.Set;
import java.util.TreeSet;
import java.util.stream.Collectors;
import java.util.stream.Stream;

/** What can be seen of the class is what stands under "The public face" of the document, and no more. */
public final class FaceTest {
    private static final String FACE = """
            public final class NestedClips
            public static final int NONE = -1;
            public NestedClips();
            public int status();
            public int feed(int a, int b, int c, int d, int e);
            public int load(int n);
            public int fault(int what);
            public int add(int kind, int around);
            public int lose(int clip);
            public int move(int clip, int place);
            public int mark(int clip, int what, int much);
            public int start(int clip, int how, int other, int much);
            public int press(int key, int time);
            public int unpress(int i);
            public int undo();
            public int many(int what);
            public int clip(int clip, int what);
            public int within(int clip, int i);
            public int begin(int clip);
            public int pressed(int i, int what);
            public int state(int clip, int time);
            public int local(int clip, int time);
            public int pass(int clip, int time);
            public int playing(int time, boolean frozen);
            public int known(int clip, int time);
            public int strength(int clip, int time);
            public int share(int clip, int time);
            public int dark(int time);
            public int top(int time);
            public int seen(int clip);
            public int brightest(int clip);
            public int hidden();
            public int pieces(int clip);
            public int piece(int clip, int i, int what);
            public int reach(int clip, int i, int local);
            public int spans(int clip);
            public int span(int clip, int i, int what);
            public int ticks(int clip);
            public int both(int clip, int other);
            public int when(int clip, int local, int i);
            public int frames(int clip);
            public int next(int time);
            public int most(int what);
            public int gaps();
            public int fit(int clip, int what, int lasts);
            public int slack(int clip);
            public int seek(int time);
            public int play(int n);
            public int event(int i, int what);
            """;

    private FaceTest() { }

    public static void main(String[] args) {
        Set<String> due = faceOfDocument();
        Set<String> seen = faceOfClass();
        int wrong = 0;
        for (String one : without(due, seen)) {
            System.out.println("missing: " + one);
            wrong++;
        }
        for (String one : without(seen, due)) {
            System.out.println("not in the document: " + one);
            wrong++;
        }
        System.out.println(wrong == 0 ? "the face is the document's" : "the face is another one");
        System.exit(wrong == 0 ? 0 : 1);
    }

    private static Set<String> without(Set<String> all, Set<String> some) {
        Set<String> left = new TreeSet<>(all);
        left.removeAll(some);
        return left;
    }

    /** A line for each member, without the names of parameters. */
    private static Set<String> faceOfDocument() {
        Set<String> lines = new TreeSet<>();
        for (String line : FACE.split("\n")) {
            lines.add(line.replace(";", "").replaceAll("(int|boolean) \\w+(?=[,)])", "$1"));
        }
        return lines;
    }

    private static Set<String> faceOfClass() {
        Set<String> lines = new TreeSet<>();
        lines.add(Modifier.toString(NestedClips.class.getModifiers()) + " class " + NestedClips.class.getName());
        for (Field field : NestedClips.class.getDeclaredFields()) {
            if (!Modifier.isPrivate(field.getModifiers())) {
                lines.add(words(field.getModifiers()) + field.getType() + " " + field.getName() + " = " + NestedClips.NONE);
            }
        }
        for (Constructor<?> one : NestedClips.class.getDeclaredConstructors()) {
            lines.add(words(one.getModifiers()) + one.getName() + taken(one.getParameterTypes()));
        }
        for (Method one : NestedClips.class.getDeclaredMethods()) {
            if (!Modifier.isPrivate(one.getModifiers()) && !one.isSynthetic()) {
                lines.add(words(one.getModifiers()) + one.getReturnType() + " " + one.getName()
                        + taken(one.getParameterTypes()) + thrown(one));
            }
        }
        return lines;
    }

    private static String words(int modifiers) {
        return modifiers == 0 ? "" : Modifier.toString(modifiers) + " ";
    }

    private static String taken(Class<?>[] types) {
        return Stream.of(types).map(Class::getName).collect(Collectors.joining(", ", "(", ")"));
    }

    private static String thrown(Method one) {
        return one.getExceptionTypes().length == 0 ? "" : " throws";
    }
}
