import java.io.IOException;
import java.lang.reflect.Constructor;
import java.lang.reflect.Field;
import java.lang.reflect.Method;
import java.lang.reflect.Modifier;
import java.nio.file.Files;
import java.nio.file.Path;
import java.util.Set;
import java.util.TreeSet;

/** The face of the class, and the rules of LANGUAGE.md that can be seen from outside or by its lines; RulesTest has others. */
public final class LanguageTest {
    private static final Check check = new Check();
    private static final String[] FACE = {"set(int,int)", "hang(int,int,int)", "ladder(int)", "screw(int,int)", "round(int)",
        "pass(int)", "change(int)", "of(int,int)", "ofLadder(int)", "count(int)", "takes(int)", "lasts(int)", "needs(int)",
        "ladderFor()", "wayRound(int)", "put(long)", "wipe()", "fault()", "carryOut()", "undo()", "save(int)", "restore(int)"};
    private static final String[] CONSTANTS = {"NO_SUCH -1", "BAD_VALUE -2", "BAD_TEXT -3", "TOO_MANY -4",
        "NOT_POSSIBLE -5", "NONE -6", "TOLD 0", "WIND 1", "STEP 2", "WORK 3"};

    public static void main(String[] args) throws Exception {
        face();
        constants();
        classesInside();
        source();
        check.end("LanguageTest");
    }

    private static void face() {
        Set<String> open = new TreeSet<>();
        Set<String> names = publicNames();
        for (Method method : WinderLadders.class.getDeclaredMethods()) {
            if (!Modifier.isPrivate(method.getModifiers()) && !method.isSynthetic()) {
                String whole = method.toString();
                check.due(whole, 1, whole.startsWith("public int WinderLadders.") ? 1 : 0);
                open.add(whole.substring(whole.indexOf('.') + 1));
            } else {
                check.due(method + " bears a public name", 0, names.contains(method.getName()) ? 1 : 0);
            }
        }
        check.due("the methods " + open, 1, open.equals(new TreeSet<>(Set.of(FACE))) ? 1 : 0);
        check.due("public and final", Modifier.PUBLIC | Modifier.FINAL, WinderLadders.class.getModifiers());
        for (Constructor<?> constructor : WinderLadders.class.getDeclaredConstructors()) {
            check.due("" + constructor, Modifier.PUBLIC, constructor.getModifiers());
            check.due("" + constructor, 0, constructor.getParameterCount());
        }
    }

    private static void constants() throws IllegalAccessException {
        Set<String> open = new TreeSet<>();
        for (Field field : WinderLadders.class.getDeclaredFields()) {
            if (Modifier.isPublic(field.getModifiers())) {
                open.add(field.getName() + " " + field.getInt(null));
            } else {
                check.due(field.getName() + " is private", 1, Modifier.isPrivate(field.getModifiers()) ? 1 : 0);
            }
            if (Modifier.isStatic(field.getModifiers())) {
                check.due(field.getName() + " is final", 1, Modifier.isFinal(field.getModifiers()) ? 1 : 0);
            }
        }
        check.due("the constants " + open, 1, open.equals(new TreeSet<>(Set.of(CONSTANTS))) ? 1 : 0);
    }

    private static Set<String> publicNames() {
        Set<String> names = new TreeSet<>();
        for (Method method : WinderLadders.class.getMethods()) {
            names.add(method.getName());
        }
        return names;
    }

    private static void classesInside() {
        Set<String> names = publicNames();
        for (Class<?> inside : WinderLadders.class.getDeclaredClasses()) {
            check.due(inside + "'s fields", 1, inside.getDeclaredFields().length <= 20 ? 1 : 0);
            for (Method method : inside.getDeclaredMethods()) {
                check.due(method + " bears a public name", 0, names.contains(method.getName()) ? 1 : 0);
            }
        }
        check.due("classes inside", 1, WinderLadders.class.getDeclaredClasses().length <= 11 ? 1 : 0);
    }

    private static void source() throws IOException {
        String whole = Files.readString(Path.of("src/main/java/WinderLadders.java"));
        for (int i = 0; i < whole.length(); i++) {
            check.due("sign " + i, 1, whole.charAt(i) < 128 ? 1 : 0);
        }
        String[] lines = whole.split("\n");
        for (int i = 0; i < lines.length; i++) {
            if (lines[i].matches("( {4}){1,2}[a-zA-Z][^=]*\\) \\{")) {
                check.due("a method at line " + (i + 1) + " is short", 1, linesOfBlock(lines, i) <= 60 ? 1 : 0);
            }
        }
    }

    private static int linesOfBlock(String[] lines, int first) {
        String end = lines[first].replaceAll("\\S.*", "") + "}";
        int last = first;
        while (last < lines.length && !lines[last].equals(end)) {
            last++;
        }
        return last - first + 1;
    }
}
