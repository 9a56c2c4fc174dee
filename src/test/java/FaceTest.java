import java.lang.reflect.Constructor;
import java.lang.reflect.Field;
import java.lang.reflect.Method;
import java.lang.reflect.Modifier;
import java.util.Arrays;
import java.util.TreeSet;

/** The public face: the constants with their values, the methods of the document, and no more. */
public final class FaceTest {
    private static final String METHODS = "about/2 addDocument/5 addPrinter/3 advance/1 blanks/1 cancel/1 canonical/2"
        + " clear/1 count/1 duration/2 fault/0 fill/3 finish/2 finisher/2 hold/1 jam/1 listed/2 log/2 page/4 printed/1"
        + " printer/2 promote/2 release/1 restore/1 save/1 say/1 set/2 setQuota/2 setRules/2 side/5 submit/1 turned/2"
        + " urgency/2 weight/2 where/3 wipe/0";
    private static final String CONSTANTS = "BAD_TEXT=-3 BAD_VALUE=-2 BOOKLET=0 CANCELED=4 COLLATE=1 COPIES=0 DONE=3"
        + " HELD=2 IDLE=0 JAMMED=2 LAYOUT=3 LONG_EDGE=1 NONE=-6 NOT_POSSIBLE=-5 NO_SUCH=-1 ONE_SIDED=0 PRINTING=1"
        + " PRIORITY=4 SHORT_EDGE=2 SIDES=2 TOO_MANY=-4 USER=5 WAITING=0";

    public static void main(String[] args) throws IllegalAccessException {
        Check check = new Check();
        TreeSet<String> methods = new TreeSet<>();
        TreeSet<String> hidden = new TreeSet<>();
        for (Method method : PrintSpooler.class.getDeclaredMethods()) {
            if (Modifier.isPrivate(method.getModifiers())) {
                hidden.add(method.getName());
            } else {
                methods.add(method.getName() + "/" + method.getParameterCount());
                check.due(method.getName() + " answers an int", method.getReturnType() == int.class ? 1 : 0, 1);
            }
        }
        check.due("the methods", String.join(" ", methods), METHODS);
        TreeSet<String> constants = new TreeSet<>();
        for (Field field : PrintSpooler.class.getDeclaredFields()) {
            if (!Modifier.isPrivate(field.getModifiers())) {
                constants.add(field.getName() + "=" + field.getInt(null));
            }
        }
        check.due("the constants", String.join(" ", constants), CONSTANTS);
        Constructor<?>[] constructors = PrintSpooler.class.getDeclaredConstructors();
        check.due("constructors", constructors.length, 1);
        check.due("their parameters", constructors[0].getParameterCount(), 0);
        check.due("public and final", PrintSpooler.class.getModifiers(), Modifier.PUBLIC | Modifier.FINAL);
        for (Class<?> inside : PrintSpooler.class.getDeclaredClasses()) {
            for (Method method : inside.getDeclaredMethods()) {
                if (Modifier.isPrivate(method.getModifiers())) {
                    hidden.add(method.getName());
                }
            }
            int modifiers = inside.getModifiers();
            check.due(inside + " is static", Modifier.isStatic(modifiers) ? 1 : 0, 1);
            check.due(inside + " is public", Modifier.isPublic(modifiers) || Modifier.isProtected(modifiers) ? 1 : 0, 0);
        }
        for (String name : METHODS.replaceAll("/\\d", "").split(" ")) {
            check.due("a hidden method with the name " + name, hidden.contains(name) ? 1 : 0, 0);
        }
        check.due("classes inside, at most 12", Math.max(12, PrintSpooler.class.getDeclaredClasses().length), 12);
        check.due("errors and NONE differ", Arrays.stream(new int[] {PrintSpooler.NO_SUCH, PrintSpooler.BAD_VALUE,
            PrintSpooler.BAD_TEXT, PrintSpooler.TOO_MANY, PrintSpooler.NOT_POSSIBLE, PrintSpooler.NONE}).sum(), -21);
        check.end();
    }
}
