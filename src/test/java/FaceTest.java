import java.lang.reflect.Constructor;
import java.lang.reflect.Field;
import java.lang.reflect.Method;
import java.lang.reflect.Modifier;
import java.nio.file.Files;
import java.nio.file.Path;
import java.util.HashSet;
import java.util.List;
import java.util.Set;
import java.util.TreeSet;
import java.util.regex.Matcher;
import java.util.regex.Pattern;

/** The document's face, and what of LANGUAGE.md can be seen by reading the class and its file. */
public final class FaceTest {
    private static final Checks CHECKS = new Checks("FaceTest");
    private static final Path SOURCE = Path.of("src/main/java/GridRiddles.java");

    private static final Set<String> METHODS = Set.of("say 1", "wipe 0", "fault 0", "clue 0", "drop 1", "told 2",
        "answers 0", "answer 2", "often 2", "together 2", "met 1", "needless 0", "core 0", "trim 0",
        "step 2", "left 2", "end 0", "image 1", "restore 1", "count 1");

    private static final List<String> CONSTANTS =
        List.of("UNKNOWN", "OUTSIDE", "STATE", "FULL", "NO", "NONE", "FAULT");

    public static void main(String[] args) throws Exception {
        constants();
        members();
        nested();
        source(Files.readString(SOURCE));
        CHECKS.close();
    }

    private static void constants() throws Exception {
        for (int k = 0; k < CONSTANTS.size(); k++) {
            Field field = GridRiddles.class.getDeclaredField(CONSTANTS.get(k));
            CHECKS.holds(field.getName() + " is a public constant of int",
                field.getModifiers() == (Modifier.PUBLIC | Modifier.STATIC | Modifier.FINAL)
                    && field.getType() == int.class);
            CHECKS.due(field.getName(), field.getInt(null), -1 - k);
        }
    }

    private static void members() {
        CHECKS.holds("the class is public and final",
            GridRiddles.class.getModifiers() == (Modifier.PUBLIC | Modifier.FINAL));
        Constructor<?>[] made = GridRiddles.class.getDeclaredConstructors();
        CHECKS.holds("one constructor, public and without parameters",
            made.length == 1 && Modifier.isPublic(made[0].getModifiers()) && made[0].getParameterCount() == 0);
        Set<String> seen = new TreeSet<>();
        Set<String> names = new HashSet<>();
        for (String method : METHODS) {
            names.add(method.split(" ")[0]);
        }
        for (Method method : GridRiddles.class.getDeclaredMethods()) {
            if (Modifier.isPrivate(method.getModifiers())) {
                CHECKS.holds("no private method is called " + method.getName(), !names.contains(method.getName()));
            } else {
                seen.add(method.getName() + " " + method.getParameterCount());
                CHECKS.holds(method.getName() + " is public int, with int parameters", facesInt(method));
            }
        }
        CHECKS.holds("the methods are those of the document: " + seen, seen.equals(new TreeSet<>(METHODS)));
        for (Field field : GridRiddles.class.getDeclaredFields()) {
            CHECKS.holds(field.getName() + " is private or a constant of the document",
                Modifier.isPrivate(field.getModifiers()) || CONSTANTS.contains(field.getName()));
        }
    }

    private static boolean facesInt(Method method) {
        boolean ints = method.getModifiers() == Modifier.PUBLIC && method.getReturnType() == int.class;
        for (Class<?> type : method.getParameterTypes()) {
            ints &= type == int.class;
        }
        return ints;
    }

    private static void nested() {
        CHECKS.holds("at most twelve classes", GridRiddles.class.getDeclaredClasses().length < 12);
        for (Class<?> type : GridRiddles.class.getDeclaredClasses()) {
            int modifiers = type.getModifiers();
            CHECKS.holds(type + " is static, not public", Modifier.isStatic(modifiers)
                && !Modifier.isPublic(modifiers) && !Modifier.isProtected(modifiers));
            CHECKS.holds(type + " has some twenty fields at most", type.getDeclaredFields().length <= 22);
            for (Field field : type.getDeclaredFields()) {
                CHECKS.holds(field + " is final, if it is static", !Modifier.isStatic(field.getModifiers())
                    || Modifier.isFinal(field.getModifiers()));
            }
            for (Method method : type.getDeclaredMethods()) {
                CHECKS.holds(method + " takes at most seven", method.getParameterCount() <= 7);
            }
        }
    }

    private static void source(String whole) {
        String code = whole.replaceAll("(?s)/\\*.*?\\*/", "").replaceAll("//[^\n]*", "");
        String barred = "throw|throws|try|catch|finally|synchronized|assert|volatile|native|package"
            + "|hashCode|toString|Random|Thread|System|nanoTime|currentTimeMillis|Exact";
        Matcher word = Pattern.compile("\\b(" + barred + ")\\b").matcher(code);
        CHECKS.holds("no barred word", !word.find());
        CHECKS.holds("no lambda, no method reference", !code.contains("->") && !code.contains("::"));
        CHECKS.holds("no static block", !Pattern.compile("static\\s*\\{").matcher(code).find());
        Matcher imports = Pattern.compile("import ([^;]*);").matcher(code);
        while (imports.find()) {
            CHECKS.holds("import " + imports.group(1), imports.group(1).equals("java.util.Arrays"));
        }
        boolean plain = true;
        for (int i = 0; i < whole.length(); i++) {
            plain &= whole.charAt(i) < 127;
        }
        CHECKS.holds("only signs below 127", plain);
        methodsStayShort(code);
    }

    private static void methodsStayShort(String code) {
        int length = 0;
        int longest = 0;
        for (String line : code.split("\n")) {
            boolean ends = line.equals("    }") || line.equals("        }");
            boolean begins = line.matches(" {4}( {4})?\\S.*\\) \\{");
            length = begins ? 1 : length + 1;
            longest = ends ? Math.max(longest, length) : longest;
            length = ends ? 0 : length;
        }
        CHECKS.holds("no method is longer than sixty lines: " + longest, longest > 5 && longest <= 60);
    }
}
