import java.lang.reflect.Field;
import java.lang.reflect.Method;
import java.lang.reflect.Modifier;
import java.util.Arrays;
import java.util.Set;
import java.util.TreeSet;

/** The class has the document's face and no other member that is not private. */
public final class FaceTest {
    private static final Check CHECK = new Check("FaceTest");

    private static final String[] METHODS = {
        "int reset(int)", "boolean setStealing(boolean)", "int tick(int)",
        "int createTask(int, int, int)", "int sleep(int)", "long wake(int)", "int exit(int)",
        "int setWeight(int, int)", "int setCookie(int, int)", "int moveTask(int, int)",
        "int taskCount()", "int stateOf(int)", "int cpuOf(int)", "long virtualTime(int)",
        "int runTicks(int)", "int waitTicks(int)", "double share(int)", "int runningTask(int)",
        "int coreCookie(int)", "int leaderOf(int)", "int queueLength(int)",
        "int queuedTask(int, int)", "long baseOf(int)", "int idleTicks(int)",
        "int forcedIdleTicks(int)", "int stolenTasks()"
    };

    private static final Set<String> NAME_NOTHING =
        Set.of("setStealing", "taskCount", "stolenTasks");
    private static final Set<String> NAME_STATE =
        Set.of("createTask", "sleep", "wake", "exit", "setWeight", "setCookie", "moveTask");

    public static void main(String[] args) {
        classAndConstructor();
        constants();
        methods();
        namedExceptions();
        CHECK.end();
    }

    private static void classAndConstructor() {
        int modifiers = CoreScheduler.class.getModifiers();
        CHECK.due("public", Modifier.isPublic(modifiers), true);
        CHECK.due("final", Modifier.isFinal(modifiers), true);
        CHECK.due("constructors", CoreScheduler.class.getDeclaredConstructors().length, 1);
        CHECK.due("public constructors", CoreScheduler.class.getConstructors().length, 1);
        int arguments = CoreScheduler.class.getConstructors()[0].getParameterCount();
        CHECK.due("arguments of the constructor", arguments, 0);
    }

    private static void constants() {
        CHECK.due("READY", CoreScheduler.READY, 0);
        CHECK.due("RUNNING", CoreScheduler.RUNNING, 1);
        CHECK.due("SLEEPING", CoreScheduler.SLEEPING, 2);
        CHECK.due("EXITED", CoreScheduler.EXITED, 3);
        CHECK.due("NONE", CoreScheduler.NONE, -1);
        Set<String> open = new TreeSet<>();
        for (Field field : CoreScheduler.class.getDeclaredFields()) {
            int modifiers = field.getModifiers();
            if (!Modifier.isPrivate(modifiers)) {
                open.add(field.toString());
            }
            if (Modifier.isStatic(modifiers)) {
                CHECK.due(field.getName() + " is final", Modifier.isFinal(modifiers), true);
            }
        }
        Set<String> want = new TreeSet<>();
        for (String name : new String[] {"READY", "RUNNING", "SLEEPING", "EXITED", "NONE"}) {
            want.add("public static final int CoreScheduler." + name);
        }
        CHECK.due("fields that are not private", open.toString(), want.toString());
    }

    private static void methods() {
        Set<String> open = new TreeSet<>();
        Set<String> publicNames = new TreeSet<>();
        Set<String> privateNames = new TreeSet<>();
        for (Method method : CoreScheduler.class.getDeclaredMethods()) {
            if (Modifier.isPrivate(method.getModifiers())) {
                privateNames.add(method.getName());
            } else {
                CHECK.due(method + " is plainly public", method.getModifiers(), Modifier.PUBLIC);
                open.add(signatureOf(method));
                publicNames.add(method.getName());
            }
        }
        CHECK.due("methods", open.toString(), new TreeSet<>(Arrays.asList(METHODS)).toString());
        privateNames.retainAll(publicNames);
        CHECK.due("private methods with a public name", privateNames.toString(), "[]");
    }

    private static void namedExceptions() {
        for (Method method : CoreScheduler.class.getMethods()) {
            if (method.getDeclaringClass() == CoreScheduler.class) {
                StringBuilder named = new StringBuilder();
                for (Class<?> type : method.getExceptionTypes()) {
                    named.append(type.getSimpleName()).append(' ');
                }
                String name = method.getName();
                CHECK.due("exceptions that " + name + " names", named.toString(), namedBy(name));
            }
        }
    }

    private static String namedBy(String name) {
        if (NAME_NOTHING.contains(name)) {
            return "";
        }
        if (NAME_STATE.contains(name)) {
            return "IllegalArgumentException IllegalStateException ";
        }
        return name.equals("queuedTask") ? "IllegalArgumentException IndexOutOfBoundsException "
            : "IllegalArgumentException ";
    }

    private static String signatureOf(Method method) {
        String arguments = Arrays.toString(method.getParameterTypes());
        arguments = arguments.substring(1, arguments.length() - 1);
        return method.getReturnType() + " " + method.getName() + "(" + arguments + ")";
    }
}
