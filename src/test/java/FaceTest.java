import java.io.IOException;
import java.lang.reflect.Constructor;
import java.lang.reflect.Field;
import java.lang.reflect.Method;
import java.lang.reflect.Modifier;
import java.nio.file.Files;
import java.nio.file.Path;
import java.util.ArrayList;
import java.util.Arrays;
import java.util.Collections;
import java.util.HashSet;
import java.util.List;
import java.util.Set;
import java.util.regex.Pattern;

/** The face and the constants of the document, and the rules of the language that can be looked up. */
public final class FaceTest {
    private static final Path SOURCE = Path.of("src/main/java/HeavyGuests.java");

    private static final Checks checks = new Checks();

    public static void main(String[] args) throws IOException {
        constants();
        members();
        names();
        staticFields();
        source();
        checks.finish();
    }

    private static void constants() {
        checks.due("NO_SUCH", HeavyGuests.NO_SUCH, -1);
        checks.due("BAD_VALUE", HeavyGuests.BAD_VALUE, -2);
        checks.due("BAD_TEXT", HeavyGuests.BAD_TEXT, -3);
        checks.due("TOO_MANY", HeavyGuests.TOO_MANY, -4);
        checks.due("NOT_POSSIBLE", HeavyGuests.NOT_POSSIBLE, -5);
        checks.due("NONE", HeavyGuests.NONE, -6);
    }

    private static void members() {
        List<String> due = Arrays.asList("HeavyGuests()", "seats(int)", "come(int,int,int)", "age(int)", "join()",
                "seat(int,int,int)", "of(int,int,int)", "stream(int,int)", "count(int)", "above(int,int,int)",
                "heaviest(int,int)", "truly(int,int)", "sureOrder(int)", "wouldTake(int,int)", "doubt(int,int)",
                "put(long)", "wipe()", "fault()", "carryOut()", "undo()", "save(int)", "restore(int)",
                "NO_SUCH", "BAD_VALUE", "BAD_TEXT", "TOO_MANY", "NOT_POSSIBLE", "NONE");
        Collections.sort(due);
        List<String> found = new ArrayList<>();
        for (Constructor<?> constructor : HeavyGuests.class.getDeclaredConstructors()) {
            addUnlessPrivate(found, constructor.getModifiers(), "HeavyGuests" + kinds(constructor.getParameterTypes()));
        }
        for (Method method : HeavyGuests.class.getDeclaredMethods()) {
            addUnlessPrivate(found, method.getModifiers(), method.getName() + kinds(method.getParameterTypes()));
            boolean isOfTheFace = !Modifier.isPublic(method.getModifiers())
                    || method.getReturnType() == int.class && !Modifier.isStatic(method.getModifiers());
            checks.holds(method + " answers an int", isOfTheFace);
        }
        for (Field field : HeavyGuests.class.getDeclaredFields()) {
            addUnlessPrivate(found, field.getModifiers(), field.getName());
        }
        Collections.sort(found);
        checks.holds("the face is " + due + ", found " + found, found.equals(due));
        checks.holds("final", Modifier.isFinal(HeavyGuests.class.getModifiers()));
    }

    private static void addUnlessPrivate(List<String> found, int modifiers, String member) {
        if (!Modifier.isPrivate(modifiers)) {
            found.add(member);
        }
    }

    private static String kinds(Class<?>[] parameters) {
        List<String> kinds = new ArrayList<>();
        for (Class<?> parameter : parameters) {
            kinds.add(parameter.getName());
        }
        return "(" + String.join(",", kinds) + ")";
    }

    private static void names() {
        Set<String> face = new HashSet<>();
        for (Method method : HeavyGuests.class.getDeclaredMethods()) {
            if (Modifier.isPublic(method.getModifiers())) {
                face.add(method.getName());
            }
        }
        checks.holds("at most twelve classes", HeavyGuests.class.getDeclaredClasses().length < 12);
        List<Class<?>> classes = new ArrayList<>(Arrays.asList(HeavyGuests.class.getDeclaredClasses()));
        classes.add(HeavyGuests.class);
        for (Class<?> each : classes) {
            for (Method method : each.getDeclaredMethods()) {
                boolean isOwn = !face.contains(method.getName()) || Modifier.isPublic(method.getModifiers());
                checks.holds(method + " has a name of its own", isOwn);
                checks.holds(method + " takes few parameters", method.getParameterCount() <= 7);
            }
            checks.holds(each + " is static", each == HeavyGuests.class || Modifier.isStatic(each.getModifiers()));
        }
    }

    private static void staticFields() {
        List<Class<?>> classes = new ArrayList<>(Arrays.asList(HeavyGuests.class.getDeclaredClasses()));
        classes.add(HeavyGuests.class);
        for (Class<?> each : classes) {
            for (Field field : each.getDeclaredFields()) {
                int modifiers = field.getModifiers();
                checks.holds(field + " is final or of an object",
                        !Modifier.isStatic(modifiers) || Modifier.isFinal(modifiers));
            }
        }
    }

    private static void source() throws IOException {
        String code = Files.readString(SOURCE);
        checks.holds("plain characters", code.chars().allMatch(c -> c == '\n' || c >= 32 && c < 127));
        // Words in comments and signs in quotes are no code.
        String bare = code.replaceAll("(?s)/\\*.*?\\*/", "").replaceAll("//[^\n]*", "").replaceAll("'[^']*'|\"[^\"]*\"", "");
        for (String word : new String[] {"package", "import", "throw", "throws", "try", "catch", "synchronized", "assert",
            "native", "transient", "volatile", "Object", "Exception", "Thread", "Random"}) {
            checks.holds("without " + word, !Pattern.compile("\\b" + word + "\\b").matcher(bare).find());
        }
        checks.holds("without lambdas", !bare.contains("->") && !bare.contains("::"));
        checks.holds("without static blocks", !Pattern.compile("static\\s*\\{").matcher(bare).find());
        // Only a field, or a constructor, makes objects: what calls make would be counted for each call.
        checks.due("new in all", count(bare, "\\bnew\\b"), count(bare, "private final \\S+ \\w+ = .*\\bnew\\b")
                + count(bare, "(?m)^                states\\[i\\] = new State\\(\\);$") + count(bare, "\\{new Slot\\(\\), "));
    }

    private static int count(String text, String pattern) {
        return (int) Pattern.compile(pattern).matcher(text).results().count();
    }
}
