import java.lang.reflect.Constructor;
import java.lang.reflect.Field;
import java.lang.reflect.Method;
import java.lang.reflect.Modifier;
import java.util.ArrayList;
import java.util.List;
import java.util.Set;
import java.util.TreeSet;

/** The class has the document's face, and nothing else of it can be seen from outside. */
public final class FaceTest {
    private static final String INDEX = " IndexOutOfBoundsException";
    private static final String ARGUMENT = " IllegalArgumentException";
    private static final String STATE = " IllegalStateException";
    /** Each method with the exceptions that it declares, in the document's order. */
    private static final String[] METHODS = {
        "append(int,int,int,int,int):int", "load(int):int" + ARGUMENT, "errorOffset():int",
        "coreCount():int", "taskCount():int", "fenceCount():int", "clock():int",
        "state(int):int" + INDEX, "counter(int):int" + INDEX, "priority(int):int" + INDEX,
        "coreOf(int):int" + INDEX, "doneAt(int):int" + INDEX, "isOpen(int):boolean" + INDEX,
        "queueLength(int):int" + INDEX, "queued(int,int):int" + INDEX, "running(int):int" + INDEX,
        "remaining(int):int" + INDEX, "busy(int):int" + INDEX, "steals(int):int" + INDEX,
        "isPaused(int):boolean" + INDEX, "finished():int", "criticalPath():int",
        "finishTime(int):int" + ARGUMENT, "timeOn(int,int):int" + ARGUMENT + STATE,
        "run(int):int" + ARGUMENT + STATE, "submit(int,int,int):int" + INDEX + ARGUMENT + STATE,
        "depend(int,int):int" + INDEX + ARGUMENT + STATE, "cancel(int):int" + INDEX + STATE,
        "setPriority(int,int):int" + INDEX + ARGUMENT, "pause(int,boolean):boolean" + INDEX,
        "undo():int", "checksum():long"};
    private static final String[] CONSTANTS = {
        "SYNTAX_ERROR=-2", "OUT_OF_RANGE=-3", "TOO_MANY=-4", "TOO_DEEP=-5", "WAITING=0",
        "READY=1", "QUEUED=2", "RUNNING=3", "DONE=4", "CANCELLED=5"};

    public static void main(String[] args) throws IllegalAccessException {
        Class<?> type = HardwareTaskQueue.class;
        Check.equal("the class is public and final",
                Modifier.isPublic(type.getModifiers()) && Modifier.isFinal(type.getModifiers()),
                true);
        methods(type);
        constants(type);
        Constructor<?>[] constructors = type.getDeclaredConstructors();
        Check.equal("constructors", constructors.length, 1);
        Check.equal("its parameters", constructors[0].getParameterCount(), 0);
        Check.equal("it is public", Modifier.isPublic(constructors[0].getModifiers()), true);
        innerNames(type);
        Check.end();
    }

    private static void methods(Class<?> type) {
        Set<String> found = new TreeSet<>();
        for (Method method : type.getDeclaredMethods()) {
            if (!Modifier.isPrivate(method.getModifiers())) {
                List<String> parameters = new ArrayList<>();
                for (Class<?> parameter : method.getParameterTypes()) {
                    parameters.add(parameter.getName());
                }
                StringBuilder declared = new StringBuilder();
                for (Class<?> exception : method.getExceptionTypes()) {
                    declared.append(' ').append(exception.getSimpleName());
                }
                found.add(method.getName() + "(" + String.join(",", parameters) + "):"
                        + method.getReturnType().getName() + declared);
                Check.equal(method + " is public", Modifier.isPublic(method.getModifiers()), true);
            }
        }
        Check.equal("the methods " + found, found.equals(new TreeSet<>(List.of(METHODS))), true);
    }

    private static void constants(Class<?> type) throws IllegalAccessException {
        Set<String> found = new TreeSet<>();
        for (Field field : type.getDeclaredFields()) {
            int modifiers = field.getModifiers();
            if (!Modifier.isPrivate(modifiers)) {
                found.add(field.getName() + "=" + field.get(null));
                Check.equal(field + " is a constant", Modifier.isPublic(modifiers)
                        && Modifier.isStatic(modifiers) && Modifier.isFinal(modifiers), true);
            }
        }
        Check.equal("the constants " + found,
                found.equals(new TreeSet<>(List.of(CONSTANTS))), true);
    }

    /** LANGUAGE.md, rule 1: no other method bears a name of the face. */
    private static void innerNames(Class<?> type) {
        Set<String> face = new TreeSet<>();
        for (String method : METHODS) {
            face.add(method.substring(0, method.indexOf('(')));
        }
        for (Class<?> inner : type.getDeclaredClasses()) {
            for (Method method : inner.getDeclaredMethods()) {
                Check.equal(method + " bears a name of the face",
                        face.contains(method.getName()), false);
            }
        }
    }
}
