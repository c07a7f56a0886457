import java.lang.reflect.Field;
import java.lang.reflect.Member;
import java.lang.reflect.Method;
import java.lang.reflect.Modifier;
import java.util.Arrays;
import java.util.TreeSet;

/** The public face, and that nothing but it can be seen from outside. */
public final class FaceTest {
    private static final String[] FACE = {
        "hang 2", "tear 1", "read 2", "mark 3", "more 3", "times 3", "size 1", "pour 4",
        "board 2", "peg 3", "look 2", "take 1", "width 1", "told 0", "count 1",
    };

    private static int wrong = 0;

    public static void main(String[] args) {
        classIsPublicAndFinal();
        methodsAreTheFace();
        noFieldIsOpen();
        if (wrong != 0) {
            System.exit(1);
        }
    }

    private static void classIsPublicAndFinal() {
        int modifiers = KeeperRolls.class.getModifiers();
        must("the class is public and final", Modifier.isPublic(modifiers) && Modifier.isFinal(modifiers));
        must("there is one constructor", KeeperRolls.class.getDeclaredConstructors().length == 1);
        must("it is public, without parameters", KeeperRolls.class.getConstructors().length == 1
            && KeeperRolls.class.getConstructors()[0].getParameterCount() == 0);
    }

    private static void methodsAreTheFace() {
        TreeSet<String> open = new TreeSet<>();
        TreeSet<String> openNames = new TreeSet<>();
        for (Method method : KeeperRolls.class.getDeclaredMethods()) {
            if (!isPrivate(method)) {
                open.add(method.getName() + " " + method.getParameterCount());
                openNames.add(method.getName());
                must(method + " is public", Modifier.isPublic(method.getModifiers()));
                must(method + " is no static one", !Modifier.isStatic(method.getModifiers()));
                must(method + " takes and answers ints", isOfInts(method));
            }
        }
        must("the open methods are the face: " + open, open.equals(new TreeSet<>(Arrays.asList(FACE))));
        for (Method method : KeeperRolls.class.getDeclaredMethods()) {
            must(method + " bears no name of the face", !isPrivate(method) || !openNames.contains(method.getName()));
        }
    }

    private static void noFieldIsOpen() {
        for (Field field : KeeperRolls.class.getDeclaredFields()) {
            must(field + " is private", isPrivate(field));
            must(field + " is no static state", !Modifier.isStatic(field.getModifiers())
                || Modifier.isFinal(field.getModifiers()));
        }
    }

    private static boolean isOfInts(Method method) {
        for (Class<?> type : method.getParameterTypes()) {
            if (type != int.class) {
                return false;
            }
        }
        return method.getReturnType() == int.class;
    }

    private static boolean isPrivate(Member member) {
        return Modifier.isPrivate(member.getModifiers());
    }

    private static void must(String what, boolean holds) {
        if (!holds) {
            wrong++;
            System.out.println("does not hold: " + what);
        }
    }
}
