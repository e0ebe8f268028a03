import java.lang.reflect.Constructor;
import java.lang.reflect.Field;
import java.lang.reflect.Method;
import java.lang.reflect.Modifier;
import java.util.Set;
import java.util.TreeSet;

/** The public face: every constant, the constructor and every method, and no other open member. */
public final class FaceTest {
    private static final String[] METHODS = {
        "newImage 1 IS", "write 3 IAS", "remove 2 IS", "clear 2 IS", "seal 1 IS", "shown 2 I",
        "entries 2 I", "commit 1 IS", "newGroup 4 IAS", "groupMemory 1 I", "groupProcesses 1 I",
        "run 4 IAS", "pause 1 IS", "resume 1 IS", "stop 1 IS", "allocate 2 IAS", "free 2 IAS",
        "fork 1 IS", "exit 1 IS", "schedule 1 A", "writeFile 3 IAS", "removeFile 2 IS", "fileOf 2 I",
        "plainFileOf 2 I", "raise 2 IS", "lower 2 IS", "drop 2 IS", "kill 2 IS", "attach 2 IS",
        "detach 1 IS", "listen 2 IS", "publish 3 IS", "connect 3 IAS", "connectHost 1 I", "save 1 IS",
        "restore 2 IS", "containers 0 ", "stateOf 1 I", "memoryOf 1 I", "timeOf 1 I",
        "capabilitiesOf 1 I", "addressOf 1 I",
    };
    private static final Check check = new Check("FaceTest");

    public static void main(String[] args) {
        methods();
        constants();
        constructors();
        check.finish();
    }

    private static void methods() {
        Set<String> due = new TreeSet<>(Set.of(METHODS));
        for (Method method : ContainerHost.class.getDeclaredMethods()) {
            if (!Modifier.isPrivate(method.getModifiers()) && !method.isSynthetic()) {
                checkTypes(method);
                String told = method.getName() + " " + method.getParameterCount() + " " + thrown(method);
                if (!due.remove(told)) {
                    check.report("an open method that is not due: " + told);
                }
            }
        }
        if (!due.isEmpty()) {
            check.report("methods that are missing: " + due);
        }
    }

    private static void checkTypes(Method method) {
        boolean answersNothing = Set.of("pause", "resume").contains(method.getName());
        if (method.getReturnType() != (answersNothing ? void.class : int.class)) {
            check.report(method + " answers another type than is due");
        }
        for (Class<?> type : method.getParameterTypes()) {
            if (type != int.class) {
                check.report(method + " takes another type than int");
            }
        }
        int due = Modifier.PUBLIC;
        check.equal("modifiers of " + method.getName(), due, method.getModifiers());
    }

    private static String thrown(Method method) {
        StringBuilder letters = new StringBuilder();
        for (Class<?> type : method.getExceptionTypes()) {
            letters.append(type == IndexOutOfBoundsException.class ? "I"
                    : type == IllegalArgumentException.class ? "A"
                    : type == IllegalStateException.class ? "S" : "?");
        }
        return letters.toString();
    }

    private static void constants() {
        check.equal("NONE", -1, ContainerHost.NONE);
        check.equal("RUNNING", 0, ContainerHost.RUNNING);
        check.equal("PAUSED", 1, ContainerHost.PAUSED);
        check.equal("STOPPED", 2, ContainerHost.STOPPED);
        check.equal("BIND", 0, ContainerHost.BIND);
        check.equal("ADMIN", 1, ContainerHost.ADMIN);
        check.equal("ATTACH", 2, ContainerHost.ATTACH);
        check.equal("KILL", 3, ContainerHost.KILL);
        Set<String> due = Set.of("NONE", "RUNNING", "PAUSED", "STOPPED", "BIND", "ADMIN", "ATTACH", "KILL");
        for (Field field : ContainerHost.class.getDeclaredFields()) {
            boolean constant = field.getModifiers() == (Modifier.PUBLIC | Modifier.STATIC | Modifier.FINAL);
            boolean asDue = due.contains(field.getName())
                    ? constant && field.getType() == int.class : Modifier.isPrivate(field.getModifiers());
            if (!asDue) {
                check.report("the field " + field + " is not as due");
            }
        }
    }

    private static void constructors() {
        Constructor<?>[] made = ContainerHost.class.getDeclaredConstructors();
        check.equal("constructors", 1, made.length);
        check.equal("arguments of the constructor", 0, made[0].getParameterCount());
        check.equal("modifiers of the constructor", Modifier.PUBLIC, made[0].getModifiers());
        check.equal("modifiers of the class", Modifier.PUBLIC | Modifier.FINAL, ContainerHost.class.getModifiers());
    }
}
