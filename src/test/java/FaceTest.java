import java.lang.reflect.Field;
import java.lang.reflect.Member;
import java.lang.reflect.Method;
import java.lang.reflect.Modifier;
import java.util.Arrays;
import java.util.HashSet;
import java.util.Set;
import java.util.TreeSet;

/** The class has the document's face and no other, and the constants have their numbers. */
public final class FaceTest {
    private static final String[] METHODS = {
        "net 1", "chip 3", "fault 3", "bless 2", "pinOf 2", "faultOf 2", "reached 2", "scanned 2",
        "reads 4", "daysOf 1", "alike 2", "twin 1", "outcomes 1", "likes 2", "fewestDays 2",
        "wanted 3", "share 1", "plant 1", "test 0", "vouch 1", "vouchers 1", "pass 1", "suspects 0",
        "bestDay 1", "file 2", "count 1", "undo 0", "type 1", "clearText 0", "place 1", "run 0"};
    private static final String[] CONSTANTS = {
        "INVALID_ARGUMENT", "NOT_POSSIBLE", "LIMIT_REACHED", "NOT_FOUND", "NONE"};

    public static void main(String[] args) {
        Check.due("INVALID_ARGUMENT", BlessedPins.INVALID_ARGUMENT, -1000001);
        Check.due("NOT_POSSIBLE", BlessedPins.NOT_POSSIBLE, -1000002);
        Check.due("LIMIT_REACHED", BlessedPins.LIMIT_REACHED, -1000003);
        Check.due("NOT_FOUND", BlessedPins.NOT_FOUND, -1000004);
        Check.due("NONE", BlessedPins.NONE, -1);
        Check.due("the class is public and final", BlessedPins.class.getModifiers(), Modifier.PUBLIC | Modifier.FINAL);
        Check.due("constructors", BlessedPins.class.getDeclaredConstructors().length, 1);
        Set<String> methods = new TreeSet<>();
        for (Method method : BlessedPins.class.getDeclaredMethods()) {
            if (isSeen(method)) {
                methods.add(method.getName() + " " + method.getParameterCount());
            }
        }
        same("methods", methods, new TreeSet<>(Arrays.asList(METHODS)));
        Set<String> fields = new TreeSet<>();
        for (Field field : BlessedPins.class.getDeclaredFields()) {
            if (isSeen(field)) {
                fields.add(field.getName());
            }
        }
        same("constants", fields, new TreeSet<>(Arrays.asList(CONSTANTS)));
        noNameTwice();
        Check.finish("FaceTest");
    }

    private static boolean isSeen(Member member) {
        return !Modifier.isPrivate(member.getModifiers()) && !member.isSynthetic();
    }

    private static void same(String what, Set<String> got, Set<String> want) {
        Check.due(what + " " + got, got.equals(want) ? 1 : 0, 1);
    }

    /** No method inside bears the name of a public one. */
    private static void noNameTwice() {
        Set<String> taken = new HashSet<>();
        for (String method : METHODS) {
            taken.add(method.substring(0, method.indexOf(' ')));
        }
        for (Class<?> inside : BlessedPins.class.getDeclaredClasses()) {
            Check.due(inside.getName() + " is static", Modifier.isStatic(inside.getModifiers()) ? 1 : 0, 1);
            for (Method method : inside.getDeclaredMethods()) {
                Check.due(inside.getName() + "." + method.getName(), taken.contains(method.getName()) ? 1 : 0, 0);
            }
        }
    }
}
