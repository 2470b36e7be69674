import java.lang.reflect.Constructor;
import java.lang.reflect.Field;
import java.lang.reflect.Method;
import java.lang.reflect.Modifier;
import java.util.HashSet;
import java.util.List;
import java.util.Set;
import java.util.TreeSet;

/** The document's face: its constants, constructor and methods, and no more that can be seen. */
public final class FaceTest {
    private static final Checks CHECKS = new Checks("FaceTest");

    private static final Set<String> METHODS = Set.of("say 1", "wipe 0", "fault 0", "clue 0", "drop 1", "told 2",
        "answers 0", "answer 2", "often 2", "together 2", "met 1", "needless 0", "core 0", "trim 0",
        "step 2", "left 2", "end 0", "image 1", "restore 1", "count 1");

    private static final List<String> CONSTANTS =
        List.of("UNKNOWN", "OUTSIDE", "STATE", "FULL", "NO", "NONE", "FAULT");

    private static final int[] NUMBERS =
        {Integer.MIN_VALUE, -7, -2, -1, 0, 1, 2, 3, 4, 11, 12, 15, 16, 49, 64, 4095, Integer.MAX_VALUE};

    private static final List<String> TEXTS = List.of("a1=b2|c3", "d4@2", "a3<b1", "c2~d3", "a1=a1", "b4+a2", "d1!c4",
        "b3=d2|c1", "a2=c3|d1", "b1=a4", "x", "c1=b2|d4", "d3@4", "c4<a1");

    public static void main(String[] args) throws Exception {
        constants();
        members();
        nested();
        longUse();
        CHECKS.close();
    }

    private static void constants() throws Exception {
        for (int k = 0; k < CONSTANTS.size(); k++) {
            Field field = GridRiddles.class.getDeclaredField(CONSTANTS.get(k));
            CHECKS.holds(field.getName() + " is a public constant of int",
                field.getModifiers() == (Modifier.PUBLIC | Modifier.STATIC | Modifier.FINAL)
                    && field.getType() == int.class);
            CHECKS.due(field.getName(), field.getInt(null), -1 - k);
        }
    }

    private static void members() {
        CHECKS.holds("the class is public and final",
            GridRiddles.class.getModifiers() == (Modifier.PUBLIC | Modifier.FINAL));
        Constructor<?>[] made = GridRiddles.class.getDeclaredConstructors();
        CHECKS.holds("one constructor, public and without parameters",
            made.length == 1 && Modifier.isPublic(made[0].getModifiers()) && made[0].getParameterCount() == 0);
        Set<String> seen = new TreeSet<>();
        Set<String> names = new HashSet<>();
        for (String method : METHODS) {
            names.add(method.split(" ")[0]);
        }
        for (Method method : GridRiddles.class.getDeclaredMethods()) {
            if (Modifier.isPrivate(method.getModifiers())) {
                CHECKS.holds("no private method is called " + method.getName(), !names.contains(method.getName()));
            } else {
                seen.add(method.getName() + " " + method.getParameterCount());
                CHECKS.holds(method.getName() + " is public int, with int parameters", facesInt(method));
            }
        }
        CHECKS.holds("the methods are those of the document: " + seen, seen.equals(new TreeSet<>(METHODS)));
        for (Field field : GridRiddles.class.getDeclaredFields()) {
            CHECKS.holds(field.getName() + " is private or a constant of the document",
                Modifier.isPrivate(field.getModifiers()) || CONSTANTS.contains(field.getName()));
        }
    }

    private static boolean facesInt(Method method) {
        boolean ints = method.getModifiers() == Modifier.PUBLIC && method.getReturnType() == int.class;
        for (Class<?> type : method.getParameterTypes()) {
            ints &= type == int.class;
        }
        return ints;
    }

    private static void nested() {
        for (Class<?> type : GridRiddles.class.getDeclaredClasses()) {
            int modifiers = type.getModifiers();
            CHECKS.holds(type + " is static, not public", Modifier.isStatic(modifiers)
                && !Modifier.isPublic(modifiers) && !Modifier.isProtected(modifiers));
        }
    }

    /** What is answered behind the 512th call is free, but no call may ever throw: a throw ends this test. */
    private static void longUse() {
        GridRiddles made = new GridRiddles();
        int mostClues = 0;
        for (int round = 0; round < NUMBERS.length * NUMBERS.length; round++) {
            made.wipe();
            for (char sign : TEXTS.get(round % TEXTS.size()).toCharArray()) {
                made.say(sign);
            }
            made.clue();
            callAll(made, NUMBERS[round % NUMBERS.length], NUMBERS[round / NUMBERS.length]);
            mostClues = Math.max(mostClues, made.count(0));
            if (round % 40 == 39) {
                made.trim();
            }
        }
        CHECKS.due("the most clues in a long use", mostClues, 12);
    }

    private static void callAll(GridRiddles made, int first, int second) {
        made.say(first);
        made.fault();
        made.drop(first);
        made.told(first, second);
        made.answers();
        made.answer(first, second);
        made.often(first, second);
        made.together(first, second);
        made.met(first);
        made.needless();
        made.core();
        made.step(first, second);
        made.left(first, second);
        made.end();
        made.image(first);
        made.restore(second);
        made.count(first);
    }
}
