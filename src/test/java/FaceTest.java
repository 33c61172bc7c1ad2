import java.lang.reflect.Constructor;
import java.lang.reflect.Field;
import java.lang.reflect.Method;
import java.lang.reflect.Modifier;
import java.nio.file.Files;
import java.nio.file.Path;
import java.util.Set;
import java.util.TreeSet;
import java.util.regex.Pattern;

/** The document's face, and what of LANGUAGE.md can be seen from outside or in the letters. */
public final class FaceTest {
    private static final Due DUE = new Due("FaceTest");
    private static final String[] METHODS = {"write 1", "wipe 0", "fault 0", "lay 0", "node 2", "cost 2", "tie 4",
        "price 3", "table 5", "loose 2", "pin 2", "rename 2", "undo 0", "turn 2", "reduced 1", "plan 1", "least 1",
        "first 1", "with 2", "without 2", "keep 0", "back 0", "count 1"};

    public static void main(String[] args) throws Exception {
        constants();
        members();
        nestedClasses();
        letters();
        DUE.end();
    }

    private static void constants() {
        DUE.is("BAD", CostChoices.BAD, -1);
        DUE.is("NO", CostChoices.NO, -2);
        DUE.is("FULL", CostChoices.FULL, -3);
        DUE.is("NONE", CostChoices.NONE, -4);
        DUE.is("NEVER", CostChoices.NEVER, 1000000);
    }

    private static void members() {
        Class<?> face = CostChoices.class;
        DUE.is("modifiers", face.getModifiers(), Modifier.PUBLIC | Modifier.FINAL);
        Set<String> open = new TreeSet<>();
        for (Method method : face.getDeclaredMethods()) {
            if (!Modifier.isPrivate(method.getModifiers()) && !method.isSynthetic()) {
                open.add(method.getName() + " " + method.getParameterCount());
                DUE.holds(method + " is public int", method.getReturnType() == int.class
                        && method.getModifiers() == Modifier.PUBLIC);
            }
        }
        DUE.holds("the methods are " + open, open.equals(new TreeSet<>(Set.of(METHODS))));
        for (Constructor<?> constructor : face.getDeclaredConstructors()) {
            DUE.holds("the constructor", Modifier.isPublic(constructor.getModifiers())
                    && constructor.getParameterCount() == 0);
        }
        Set<String> fields = new TreeSet<>();
        for (Field field : face.getDeclaredFields()) {
            if (!Modifier.isPrivate(field.getModifiers())) {
                fields.add(field.getName());
            }
            DUE.holds(field + " is final, if static",
                    !Modifier.isStatic(field.getModifiers()) || Modifier.isFinal(field.getModifiers()));
        }
        DUE.holds("the constants are " + fields, fields.equals(Set.of("BAD", "NO", "FULL", "NONE", "NEVER")));
    }

    private static void nestedClasses() {
        Set<String> face = new TreeSet<>();
        for (String method : METHODS) {
            face.add(method.substring(0, method.indexOf(' ')));
        }
        for (Method method : CostChoices.class.getDeclaredMethods()) {
            DUE.holds(method + " has a name of its own",
                    Modifier.isPublic(method.getModifiers()) || !face.contains(method.getName()));
        }
        Class<?>[] nested = CostChoices.class.getDeclaredClasses();
        DUE.holds("twelve classes at most", nested.length <= 11);
        fewFields(CostChoices.class);
        for (Class<?> one : nested) {
            fewFields(one);
            DUE.holds(one + " is static", Modifier.isStatic(one.getModifiers()));
            DUE.holds(one + " is not open", !Modifier.isPublic(one.getModifiers())
                    && !Modifier.isProtected(one.getModifiers()));
            for (Method method : one.getDeclaredMethods()) {
                DUE.holds(method + " has a name of its own", !face.contains(method.getName()));
                DUE.holds(method + " takes seven at most", method.getParameterCount() <= 7);
            }
        }
    }

    private static void fewFields(Class<?> one) {
        int fields = 0;
        for (Field field : one.getDeclaredFields()) {
            fields += Modifier.isStatic(field.getModifiers()) ? 0 : 1;
        }
        DUE.holds(one + " has twenty fields at most: " + fields, fields <= 20);
    }

    private static void letters() throws Exception {
        String source = Files.readString(Path.of("src/main/java/CostChoices.java"));
        String code = source.replaceAll("(?s)/\\*.*?\\*/", " ").replaceAll("//[^\n]*", " ");
        for (String word : new String[] {"throw", "throws", "try", "catch", "finally", "synchronized", "assert",
            "import", "package", "native", "volatile", "transient", "Exact", "Object", "Random", "Thread", "->", "::"}) {
            String pattern = Character.isLetter(word.charAt(0)) ? "\\b" + word + "\\b" : Pattern.quote(word);
            DUE.holds("no " + word, !Pattern.compile(pattern).matcher(code).find());
        }
        DUE.holds("no texts joined by +", !Pattern.compile("\"\\s*\\+|\\+\\s*\"").matcher(code).find());
        DUE.holds("plain letters alone", source.chars().allMatch(c -> c == '\n' || (c >= 32 && c < 127)));
    }
}
