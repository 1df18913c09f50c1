import java.lang.reflect.Constructor;
import java.lang.reflect.Field;
import java.lang.reflect.Method;
import java.lang.reflect.Modifier;
import java.util.Arrays;
import java.util.TreeSet;

/** The public face of the class, just as the document gives it, and promise 1: a new object. */
public final class FaceTest {

    private static final String CONSTANTS = "BUSY=-5 CONFLICT=-3 CYCLE=-4 FULL=-2 MASKED=-6 NONE=-1 WRONG_STATE=-7";

    private static final String NO_ARGUMENTS = "int load loadError find unitCount queueLength time logSize orderingCircle"
        + " ticksUntilQuiet weakest";
    private static final String OF_A_UNIT = "kindOf serviceOf cancel jobOf precedingJobs outcomeOf stateOf resultOf exitCode"
        + " since dueAt restarts begins recentBegins queued accepted lost allNeeded allStopped ticksUntilActive criticalTime";
    private static final String OF_A_UNIT_AND_A_NUMBER = "property related planDepth connect kill stateAfter damageOf";

    private static void addAll(TreeSet<String> face, String names, String head, String tail) {
        for (String name : names.split(" ")) {
            face.add(head + name + tail);
        }
    }

    private static TreeSet<String> faceOfTheDocument() {
        TreeSet<String> face = new TreeSet<>();
        String index = " throws [IndexOutOfBoundsException]";
        String argument = " throws [IllegalArgumentException]";
        String both = " throws [IndexOutOfBoundsException, IllegalArgumentException]";
        addAll(face, NO_ARGUMENTS.substring(4), "int ", "[] throws []");
        addAll(face, OF_A_UNIT, "int ", "[int]" + index);
        addAll(face, OF_A_UNIT_AND_A_NUMBER, "int ", "[int, int]" + both);
        addAll(face, "start stop restart", "int ", "[int, boolean]" + index);
        addAll(face, "isRunning reset", "boolean ", "[int]" + index);
        addAll(face, "advance inState saveSnapshot restoreSnapshot", "int ", "[int]" + argument);
        face.add("int append[long] throws []");
        face.add("int nameLetter[int, int]" + index);
        face.add("int plan[int, int, int]" + both);
        face.add("int logEntry[int, int]" + argument);
        face.add("boolean setMasked[int, boolean]" + index);
        face.add("boolean isSound[] throws []");
        return face;
    }

    private static String names(Class<?>[] classes) {
        return Arrays.toString(Arrays.stream(classes).map(Class::getSimpleName).toArray());
    }

    private static TreeSet<String> faceOfTheClass() {
        TreeSet<String> face = new TreeSet<>();
        for (Method method : ServiceManager.class.getDeclaredMethods()) {
            if (!Modifier.isPrivate(method.getModifiers())) {
                boolean plain = method.getModifiers() == Modifier.PUBLIC;
                face.add((plain ? "" : "NOT PLAIN ") + method.getReturnType().getSimpleName() + " " + method.getName()
                    + names(method.getParameterTypes()) + " throws " + names(method.getExceptionTypes()));
            }
        }
        return face;
    }

    private static String constantsOfTheClass() throws IllegalAccessException {
        TreeSet<String> constants = new TreeSet<>();
        for (Field field : ServiceManager.class.getDeclaredFields()) {
            if (!Modifier.isPrivate(field.getModifiers())) {
                boolean plain = field.getModifiers() == (Modifier.PUBLIC | Modifier.STATIC | Modifier.FINAL);
                constants.add(field.getName() + (plain && field.getType() == int.class ? "=" + field.getInt(null) : " NOT PLAIN"));
            }
        }
        return String.join(" ", constants);
    }

    private static void newObject(Check check) {
        ServiceManager manager = new ServiceManager();
        check.due("unitCount() of a new object", manager.unitCount(), 0);
        check.due("time() of a new object", manager.time(), 0);
        check.due("loadError() of a new object", manager.loadError(), 0);
        check.due("queueLength() of a new object", manager.queueLength(), 0);
        check.due("logSize() of a new object", manager.logSize(), 0);
        check.due("restoreSnapshot(0) of a new object", manager.restoreSnapshot(0), ServiceManager.NONE);
        check.due("restoreSnapshot(1) of a new object", manager.restoreSnapshot(1), ServiceManager.NONE);
        check.due("append() to a new object", manager.append('a'), 1);
        check.due("find() in a new object", manager.find(), ServiceManager.NONE);
        check.due("isSound() of a new object", manager.isSound(), true);
        check.due("orderingCircle() of a new object", manager.orderingCircle(), 0);
        check.due("weakest() of a new object", manager.weakest(), ServiceManager.NONE);
        check.due("ticksUntilQuiet() of a new object", manager.ticksUntilQuiet(), 0);
        for (int state = 0; state <= 5; state++) {
            check.due("inState(" + state + ") of a new object", manager.inState(state), 0);
        }
        check.due("advance(1000) of a new object", manager.advance(1000), 1000);
        check.noSuchUnit("stateOf(0) of a new object", () -> manager.stateOf(0));
    }

    public static void main(String[] args) throws IllegalAccessException {
        Check check = new Check();
        check.due("the constants", constantsOfTheClass(), CONSTANTS);
        check.due("the methods", faceOfTheClass().toString(), faceOfTheDocument().toString());
        int modifiers = ServiceManager.class.getModifiers();
        check.due("the class's modifiers", modifiers, Modifier.PUBLIC | Modifier.FINAL);
        Constructor<?>[] constructors = ServiceManager.class.getDeclaredConstructors();
        check.due("the number of constructors", constructors.length, 1);
        check.due("the constructor", constructors[0].toString(), "public ServiceManager()");
        newObject(check);
        check.finish();
    }
}
