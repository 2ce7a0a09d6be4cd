import java.util.Arrays;
import java.util.function.Supplier;
import java.util.function.ToIntFunction;

/** Counts the answers that are not as due; each test makes one and ends with finish(). */
final class Checks {
    private static final int ROUNDS_TO_PASS_EVERY_CELL = 36;
    private static final int VALUES_PER_PROCESS = 121;

    private final String name;
    private String about = "";
    private int made = 0;
    private int wrong = 0;

    Checks(String name) {
        this.name = name;
    }

    /** Names the document's sentence that the checks from here on are about. */
    void sentence(String words) {
        about = " \"" + words + "\"";
    }

    void due(String call, long got, long want) {
        made++;
        if (got != want) {
            wrong++;
            System.out.println(name + about + ": " + call + " answered " + got + ", due is " + want);
        }
    }

    /** Checks a call's answer, and that no later call shows that it was made. */
    void refused(String call, Supplier<SignalKernel> scene, ToIntFunction<SignalKernel> refusal, int want) {
        SignalKernel x = scene.get();
        due(call, refusal.applyAsInt(x), want);
        alike(call, x, scene.get());
    }

    /** Checks that two kernels show the same now, in each round of a long run, and in their next serials. */
    void alike(String call, SignalKernel x, SignalKernel twin) {
        boolean same = Arrays.equals(view(x), view(twin));
        for (int round = 0; round < ROUNDS_TO_PASS_EVERY_CELL && same; round++) {
            same = x.run(1) == twin.run(1) && Arrays.equals(view(x), view(twin));
        }
        for (int pid = 0; pid < 4 && same; pid++) {
            same = x.send(pid, 16) == twin.send(pid, 16) && Arrays.equals(view(x), view(twin));
        }
        due(call + " left all that later calls show as it was", same ? 1 : 0, 1);
    }

    void unchanged(String call, SignalKernel x, long[] before) {
        due(call + " left every readable value as it was", Arrays.equals(before, view(x)) ? 1 : 0, 1);
    }

    /** Checks the four fields of a stored event. */
    void event(SignalKernel x, int index, int kind, int pid, int value, int serial) {
        due("logField(" + index + ", 0)", x.logField(index, 0), kind);
        due("logField(" + index + ", 1)", x.logField(index, 1), pid);
        due("logField(" + index + ", 2)", x.logField(index, 2), value);
        due("logField(" + index + ", 3)", x.logField(index, 3), serial);
    }

    /** Checks the event logged last, while the log still has room. */
    void lastEvent(SignalKernel x, int kind, int pid, int value, int serial) {
        event(x, x.logTotal() - 1, kind, pid, value, serial);
    }

    void registers(SignalKernel x, int pid, int pc, int a, int b) {
        due("reg(" + pid + ", R_PC)", x.reg(pid, SignalKernel.R_PC), pc);
        due("reg(" + pid + ", R_A)", x.reg(pid, SignalKernel.R_A), a);
        due("reg(" + pid + ", R_B)", x.reg(pid, SignalKernel.R_B), b);
    }

    void frame(SignalKernel x, int level, int pc, int a, int b, int mask) {
        frameOf(x, 0, level, pc, a, b, mask);
    }

    void frameOf(SignalKernel x, int pid, int level, int pc, int a, int b, int mask) {
        int[] saved = {pc, a, b, mask};
        for (int field = 0; field < 4; field++) {
            due("frame(" + pid + ", " + level + ", " + field + ")", x.frame(pid, level, field), saved[field]);
        }
    }

    /** Checks that the processes but this one show the same in both kernels. */
    void othersAlike(String call, int pid, SignalKernel x, SignalKernel y) {
        long[] seen = view(x);
        long[] wanted = view(y);
        for (int i = 0; i < 4 * VALUES_PER_PROCESS; i++) {
            if (i / VALUES_PER_PROCESS != pid) {
                due(call + ": value " + i % VALUES_PER_PROCESS + " of process " + i / VALUES_PER_PROCESS, seen[i], wanted[i]);
            }
        }
    }

    void finish() {
        System.out.println(name + ": " + (wrong == 0 ? made + " answers are as due" : wrong + " of " + made + " answers are not as due"));
        if (wrong != 0) {
            System.exit(1);
        }
    }

    /** Pokes (op, arg) pairs into the cells from addr on. */
    static void load(SignalKernel x, int pid, int addr, int... code) {
        for (int i = 0; i + 1 < code.length; i += 2) {
            if (x.poke(pid, addr + i / 2, code[i], code[i + 1]) != 0) {
                throw new IllegalArgumentException("a test's own code does not fit");
            }
        }
    }

    /** A kernel whose process 0 loops on its first cell. */
    static SignalKernel spinning(int procs, int maxDepth) {
        SignalKernel x = new SignalKernel(procs, maxDepth);
        for (int pid = 0; pid < procs; pid++) {
            load(x, pid, 0, SignalKernel.OP_JMP, 0);
        }
        return x;
    }

    /** A kernel of one process with this code at address 0. */
    static SignalKernel holding(int... code) {
        SignalKernel x = new SignalKernel(1, 2);
        load(x, 0, 0, code);
        return x;
    }

    /** Every value that the public face lets one read. */
    static long[] view(SignalKernel x) {
        long[] seen = new long[1100];
        int n = 0;
        for (int pid = 0; pid < 4; pid++) {
            seen[n++] = x.state(pid);
            for (int which = 0; which < 10; which++) {
                seen[n++] = x.reg(pid, which);
            }
            for (int i = 0; i < 16; i++) {
                seen[n++] = x.frame(pid, i / 4, i % 4);
                seen[n++] = x.queued(pid, i / 2, i % 2);
                seen[n++] = x.pendingSerial(pid, i);
            }
            for (int i = 2; i < 64; i++) {
                seen[n++] = x.getAction(pid, i / 2, i % 2);
            }
        }
        seen[n++] = x.logTotal();
        for (int i = 0; i < 512; i++) {
            seen[n++] = x.logField(i / 4, i % 4);
        }
        return seen;
    }
}
