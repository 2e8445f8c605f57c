import java.lang.reflect.Constructor;
import java.lang.reflect.Field;
import java.lang.reflect.Method;
import java.lang.reflect.Modifier;
import java.util.ArrayList;
import java.util.List;
import java.util.Set;
import java.util.TreeSet;

/** The class has the document's face, and nothing else of it can be seen from outside. */
public final class FaceTest {
    private static final String[] METHODS = {
        "append(int,int,int,int,int):int", "load(int):int", "errorOffset():int",
        "coreCount():int", "taskCount():int", "fenceCount():int", "clock():int",
        "state(int):int", "counter(int):int", "priority(int):int", "coreOf(int):int",
        "doneAt(int):int", "isOpen(int):boolean", "queueLength(int):int",
        "queued(int,int):int", "running(int):int", "remaining(int):int", "busy(int):int",
        "steals(int):int", "isPaused(int):boolean", "finished():int", "criticalPath():int",
        "finishTime(int):int", "timeOn(int,int):int", "run(int):int",
        "submit(int,int,int):int", "depend(int,int):int", "cancel(int):int",
        "setPriority(int,int):int", "pause(int,boolean):boolean", "undo():int",
        "checksum():long"};
    private static final String[] CONSTANTS = {
        "SYNTAX_ERROR=-2", "OUT_OF_RANGE=-3", "TOO_MANY=-4", "TOO_DEEP=-5", "WAITING=0",
        "READY=1", "QUEUED=2", "RUNNING=3", "DONE=4", "CANCELLED=5"};

    public static void main(String[] args) throws IllegalAccessException {
        Class<?> type = HardwareTaskQueue.class;
        Check.equal("the class is public and final",
                Modifier.isPublic(type.getModifiers()) && Modifier.isFinal(type.getModifiers()),
                true);
        methods(type);
        constants(type);
        Constructor<?>[] constructors = type.getDeclaredConstructors();
        Check.equal("constructors", constructors.length, 1);
        Check.equal("its parameters", constructors[0].getParameterCount(), 0);
        Check.equal("it is public", Modifier.isPublic(constructors[0].getModifiers()), true);
        innerNames(type);
        Check.end();
    }

    private static void methods(Class<?> type) {
        Set<String> found = new TreeSet<>();
        for (Method method : type.getDeclaredMethods()) {
            if (!Modifier.isPrivate(method.getModifiers())) {
                List<String> parameters = new ArrayList<>();
                for (Class<?> parameter : method.getParameterTypes()) {
                    parameters.add(parameter.getName());
                }
                found.add(method.getName() + "(" + String.join(",", parameters) + "):"
                        + method.getReturnType().getName());
                Check.equal(method + " is public", Modifier.isPublic(method.getModifiers()), true);
            }
        }
        Check.equal("the methods " + found, found.equals(new TreeSet<>(List.of(METHODS))), true);
    }

    private static void constants(Class<?> type) throws IllegalAccessException {
        Set<String> found = new TreeSet<>();
        for (Field field : type.getDeclaredFields()) {
            int modifiers = field.getModifiers();
            if (!Modifier.isPrivate(modifiers)) {
                found.add(field.getName() + "=" + field.get(null));
                Check.equal(field + " is a constant", Modifier.isPublic(modifiers)
                        && Modifier.isStatic(modifiers) && Modifier.isFinal(modifiers), true);
            }
        }
        Check.equal("the constants " + found,
                found.equals(new TreeSet<>(List.of(CONSTANTS))), true);
    }

    /** LANGUAGE.md, rule 1: no other method bears a name of the face. */
    private static void innerNames(Class<?> type) {
        Set<String> face = new TreeSet<>();
        for (String method : METHODS) {
            face.add(method.substring(0, method.indexOf('(')));
        }
        for (Class<?> inner : type.getDeclaredClasses()) {
            for (Method method : inner.getDeclaredMethods()) {
                Check.equal(method + " bears a name of the face",
                        face.contains(method.getName()), false);
            }
        }
    }
}
