import java.lang.reflect.Constructor;
import java.lang.reflect.Field;
import java.lang.reflect.Method;
import java.lang.reflect.Modifier;
import java.util.Arrays;
import java.util.HashMap;
import java.util.Map;
import java.util.Set;
import java.util.TreeSet;

/** The public face and the constants of the document's head, and nothing beside them. */
public final class FaceTest {
    private static final String CONSTANTS =
        "RUNNING = 0, SLEEPING = 1, STOPPED = 2, EXITED = 3, KILLED = 4, "
        + "ESRCH = -3, EINTR = -4, EAGAIN = -11, EINVAL = -22, H_DFL = -1, H_IGN = -2, "
        + "SA_RESTART = 1, SA_NODEFER = 2, SA_RESETHAND = 4, "
        + "SIGKILL = 9, SIGSEGV = 11, SIGTSTP = 12, SIGCHLD = 13, SIGCONT = 14, SIGSTOP = 15, "
        + "SIGRTMIN = 16, SIGRTMAX = 31, "
        + "OP_HALT = 0, OP_LDA = 1, OP_LDB = 2, OP_ADD = 3, OP_JMP = 4, OP_JNZ = 5, "
        + "OP_KILL = 6, OP_MASK = 7, OP_SIGACT = 8, OP_SLEEP = 9, OP_SIGRET = 10, "
        + "OP_OUT = 11, OP_SELF = 12, OP_PENDING = 13, OP_SWAP = 14, OP_NOP = 15, "
        + "R_PC = 0, R_A = 1, R_B = 2, R_SP = 3, R_MASK = 4, R_DEPTH = 5, "
        + "R_SLEEP = 6, R_STATUS = 7, R_PENDING = 8, R_QUEUED = 9, "
        + "EV_HANDLER = 1, EV_TERM = 2, EV_STOP = 3, EV_IGNORE = 4, "
        + "EV_CONT = 5, EV_OUT = 6, EV_EXIT = 7, "
        + "CODE_CELLS = 32, QUEUE_CAP = 8, LOG_CAP = 128, SP_INIT = 64, FRAME_SIZE = 4";

    private static final String METHODS =
        "poke/4 setAction/4 send/2 run/1 state/1 reg/2 frame/3 queued/3 pendingSerial/2 "
        + "getAction/3 logTotal/0 logField/2";

    private static final Checks checks = new Checks("FaceTest");

    public static void main(String[] args) throws IllegalAccessException {
        constants();
        methods();
        theClassItself();
        checks.finish();
    }

    private static void constants() throws IllegalAccessException {
        Map<String, Integer> wanted = new HashMap<>();
        for (String row : CONSTANTS.split(", ")) {
            String[] sides = row.split(" = ");
            wanted.put(sides[0], Integer.parseInt(sides[1]));
        }
        int open = 0;
        for (Field field : SignalKernel.class.getDeclaredFields()) {
            int how = field.getModifiers();
            if (Modifier.isStatic(how)) {
                checks.due(field.getName() + " is a final number",
                    Modifier.isFinal(how) && (field.getType() == int.class || field.getType() == long.class) ? 1 : 0, 1);
            }
            if (Modifier.isPrivate(how)) {
                continue;
            }
            open++;
            checks.due(field.getName() + " is a constant of the document",
                wanted.containsKey(field.getName()) && how == (Modifier.PUBLIC | Modifier.STATIC | Modifier.FINAL)
                && field.getType() == int.class ? 1 : 0, 1);
            if (wanted.containsKey(field.getName())) {
                checks.due(field.getName(), field.getInt(null), wanted.get(field.getName()));
            }
        }
        checks.due("the number of constants", open, wanted.size());
    }

    private static void methods() {
        Set<String> open = new TreeSet<>();
        Set<String> openNames = new TreeSet<>();
        for (Method method : SignalKernel.class.getDeclaredMethods()) {
            if (Modifier.isPrivate(method.getModifiers())) {
                continue;
            }
            open.add(method.getName() + "/" + method.getParameterCount());
            openNames.add(method.getName());
            checks.due(method + " is public and over int alone",
                Modifier.isPublic(method.getModifiers()) && !Modifier.isStatic(method.getModifiers())
                && method.getReturnType() == int.class && overInt(method.getParameterTypes()) ? 1 : 0, 1);
        }
        checks.due("the open methods are " + METHODS + ", found " + open,
            open.equals(new TreeSet<>(Arrays.asList(METHODS.split(" ")))) ? 1 : 0, 1);
        for (Method method : SignalKernel.class.getDeclaredMethods()) {
            if (Modifier.isPrivate(method.getModifiers())) {
                checks.due(method + " bears a name of its own", openNames.contains(method.getName()) ? 0 : 1, 1);
                checks.due(method + " takes at most seven parameters", method.getParameterCount() <= 7 ? 1 : 0, 1);
            }
        }
    }

    private static void theClassItself() {
        int how = SignalKernel.class.getModifiers();
        checks.due("public and final", how & (Modifier.PUBLIC | Modifier.FINAL), Modifier.PUBLIC | Modifier.FINAL);
        checks.due("nested classes", SignalKernel.class.getDeclaredClasses().length, 0);
        Constructor<?>[] made = SignalKernel.class.getDeclaredConstructors();
        checks.due("constructors", made.length, 1);
        checks.due("the constructor is public and takes two ints",
            Modifier.isPublic(made[0].getModifiers()) && made[0].getParameterCount() == 2
            && overInt(made[0].getParameterTypes()) ? 1 : 0, 1);
    }

    private static boolean overInt(Class<?>[] types) {
        for (Class<?> type : types) {
            if (type != int.class) {
                return false;
            }
        }
        return true;
    }
}
