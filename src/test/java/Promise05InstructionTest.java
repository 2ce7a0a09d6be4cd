/** Promise 5: the sixteen instructions. */
public final class Promise05InstructionTest {
    private static final int UNBLOCKABLE = 1 | 1 << 9 | 1 << 15;
    private static final Checks checks = new Checks("Promise05InstructionTest");

    public static void main(String[] args) {
        halt();
        loadsAndAdd();
        jumps();
        killOthers();
        killAnswers();
        killOneself();
        mask();
        maskRefusals();
        sigact();
        sigactInTheLastProcess();
        sigactRefusals();
        sigret();
        out();
        selfPendingSwapNop();
        aStepChangesOneProcess();
        checks.finish();
    }

    private static void halt() {
        int[] values = {0, 7, -1, Integer.MIN_VALUE, Integer.MAX_VALUE};
        for (int value : values) {
            SignalKernel x = Checks.holding(SignalKernel.OP_LDA, value, SignalKernel.OP_LDB, 3, SignalKernel.OP_HALT, 99);
            checks.due("run(9)", x.run(9), 3);
            checks.due("state(0)", x.state(0), SignalKernel.EXITED);
            checks.due("reg(0, R_STATUS)", x.reg(0, SignalKernel.R_STATUS), value);
            checks.registers(x, 0, 2, value, 3);
            checks.due("logTotal()", x.logTotal(), 1);
            checks.event(x, 0, SignalKernel.EV_EXIT, 0, value, 0);
        }
        haltClears();
    }

    private static void haltClears() {
        SignalKernel x = Checks.holding(SignalKernel.OP_LDA, -1, SignalKernel.OP_MASK, 2, SignalKernel.OP_HALT, 0);
        Checks.load(x, 0, 9, SignalKernel.OP_JMP, 0);
        x.setAction(0, 4, 9, 0);
        x.send(0, 4);
        x.run(4);
        x.send(0, 3);
        x.send(0, 16);
        x.run(1);
        checks.due("state(0)", x.state(0), SignalKernel.EXITED);
        checks.due("reg(0, R_PENDING)", x.reg(0, SignalKernel.R_PENDING), 0);
        checks.due("reg(0, R_QUEUED)", x.reg(0, SignalKernel.R_QUEUED), 0);
        checks.due("pendingSerial(0, 3)", x.pendingSerial(0, 3), 0);
        checks.due("depth stays", x.reg(0, SignalKernel.R_DEPTH), 1);
        checks.due("MASK stays", x.reg(0, SignalKernel.R_MASK), ~UNBLOCKABLE);
    }

    private static void loadsAndAdd() {
        SignalKernel x = Checks.holding(SignalKernel.OP_LDA, Integer.MAX_VALUE, SignalKernel.OP_LDB, Integer.MIN_VALUE,
            SignalKernel.OP_ADD, 2, SignalKernel.OP_ADD, -5);
        x.run(1);
        checks.registers(x, 0, 1, Integer.MAX_VALUE, 0);
        x.run(1);
        checks.registers(x, 0, 2, Integer.MAX_VALUE, Integer.MIN_VALUE);
        x.run(1);
        checks.registers(x, 0, 3, Integer.MIN_VALUE + 1, Integer.MIN_VALUE);
        x.run(1);
        checks.registers(x, 0, 4, Integer.MAX_VALUE - 3, Integer.MIN_VALUE);
        checks.due("logTotal()", x.logTotal(), 0);
    }

    private static void jumps() {
        int[] targets = {0, 1, 31, 32, -1, Integer.MIN_VALUE, Integer.MAX_VALUE};
        int[] values = {0, 1, -1, Integer.MIN_VALUE};
        for (int target : targets) {
            SignalKernel x = Checks.holding(SignalKernel.OP_JMP, target);
            x.run(1);
            checks.registers(x, 0, target, 0, 0);
            for (int value : values) {
                x = Checks.holding(SignalKernel.OP_LDA, value, SignalKernel.OP_JNZ, target);
                x.run(2);
                checks.registers(x, 0, value != 0 ? target : 2, value, 0);
            }
        }
    }

    private static void killOthers() {
        SignalKernel x = Checks.spinning(2, 1);
        Checks.load(x, 0, 0, SignalKernel.OP_NOP, 0, SignalKernel.OP_LDB, 1,
            SignalKernel.OP_KILL, 20, SignalKernel.OP_KILL, 3, SignalKernel.OP_KILL, 3);
        Checks.load(x, 1, 0, SignalKernel.OP_LDA, -1, SignalKernel.OP_MASK, 2, SignalKernel.OP_JMP, 2);
        x.run(3);
        checks.registers(x, 0, 3, 1, 1);
        checks.due("queued(1, 0, 0)", x.queued(1, 0, 0), 20);
        x.run(1);
        checks.registers(x, 0, 4, 2, 1);
        checks.due("pendingSerial(1, 3)", x.pendingSerial(1, 3), 2);
        x.run(1);
        checks.registers(x, 0, 5, 0, 1);
        checks.due("logTotal()", x.logTotal(), 0);
    }

    private static void killAnswers() {
        int[] targets = {-1, 2, 0, 0, 0, 5};
        int[] signals = {3, 3, 0, 32, -1, 0};
        int[] answers = {SignalKernel.ESRCH, SignalKernel.ESRCH, SignalKernel.EINVAL, SignalKernel.EINVAL,
            SignalKernel.EINVAL, SignalKernel.EINVAL};
        for (int i = 0; i < targets.length; i++) {
            SignalKernel x = Checks.holding(SignalKernel.OP_LDB, targets[i], SignalKernel.OP_KILL, signals[i]);
            x.run(2);
            checks.registers(x, 0, 2, answers[i], targets[i]);
        }
        SignalKernel x = Checks.spinning(2, 1);
        Checks.load(x, 0, 0, SignalKernel.OP_LDB, 1, SignalKernel.OP_KILL, 9, SignalKernel.OP_KILL, 9, SignalKernel.OP_JMP, 3);
        x.run(2);
        checks.registers(x, 0, 2, 1, 1);
        checks.due("state(1)", x.state(1), SignalKernel.KILLED);
        checks.event(x, 0, SignalKernel.EV_TERM, 1, 9, 1);
        x.run(1);
        checks.registers(x, 0, 3, SignalKernel.ESRCH, 1);
        x = Checks.holding(SignalKernel.OP_KILL, 31);
        Checks.load(x, 0, 1, SignalKernel.OP_LDA, -1, SignalKernel.OP_MASK, 2, SignalKernel.OP_KILL, 31, SignalKernel.OP_JMP, 3);
        x.setAction(0, 31, SignalKernel.H_IGN, 0);
        x.run(1);
        checks.registers(x, 0, 1, 1, 0);
        x.run(30);
        checks.due("a full queue answers", x.reg(0, SignalKernel.R_A), SignalKernel.EAGAIN);
        checks.due("reg(0, R_QUEUED)", x.reg(0, SignalKernel.R_QUEUED), 8);
        killResumes();
    }

    private static void killResumes() {
        SignalKernel x = Checks.spinning(2, 1);
        Checks.load(x, 0, 0, SignalKernel.OP_LDB, 1, SignalKernel.OP_KILL, 14);
        x.send(1, 15);
        x.run(1);
        checks.due("state(1)", x.state(1), SignalKernel.STOPPED);
        checks.due("the resumed one steps in the same round", x.run(1), 2);
        checks.registers(x, 0, 2, 2, 1);
        checks.event(x, 1, SignalKernel.EV_CONT, 1, 14, 2);
        checks.event(x, 2, SignalKernel.EV_IGNORE, 1, 14, 2);
    }

    private static void killOneself() {
        SignalKernel x = Checks.holding(SignalKernel.OP_LDA, 5, SignalKernel.OP_SELF, 0, SignalKernel.OP_KILL, 9);
        checks.due("run(5)", x.run(5), 3);
        checks.registers(x, 0, 2, 5, 0);
        checks.due("state(0)", x.state(0), SignalKernel.KILLED);
        checks.due("reg(0, R_STATUS)", x.reg(0, SignalKernel.R_STATUS), 9);
        checks.event(x, 0, SignalKernel.EV_TERM, 0, 9, 1);
        x = Checks.holding(SignalKernel.OP_LDA, 5, SignalKernel.OP_KILL, 3);
        x.run(2);
        checks.registers(x, 0, 2, 1, 0);
        checks.due("other signals wait for the next step", x.state(0), SignalKernel.RUNNING);
        x.run(1);
        checks.due("state(0)", x.state(0), SignalKernel.KILLED);
        checks.due("reg(0, R_STATUS)", x.reg(0, SignalKernel.R_STATUS), 3);
    }

    private static void mask() {
        int first = 1 << 3 | 1 << 16 | 1 << 31;
        int[] seconds = {0, -1, 1 << 3 | 1 << 4, UNBLOCKABLE, 1 << 31, UNBLOCKABLE | 1 << 20};
        for (int second : seconds) {
            for (int k = 0; k <= 2; k++) {
                SignalKernel x = Checks.holding(SignalKernel.OP_LDA, first | UNBLOCKABLE, SignalKernel.OP_MASK, 2,
                    SignalKernel.OP_LDB, 4, SignalKernel.OP_LDA, second, SignalKernel.OP_MASK, k);
                x.run(2);
                checks.registers(x, 0, 2, 0, 0);
                checks.due("MASK 2", x.reg(0, SignalKernel.R_MASK), first);
                x.run(3);
                int due = k == 0 ? first | second : k == 1 ? first & ~second : second;
                checks.due("MASK " + k + " with " + second, x.reg(0, SignalKernel.R_MASK), due & ~UNBLOCKABLE);
                checks.registers(x, 0, 5, first, 4);
            }
        }
    }

    private static void maskRefusals() {
        int[] bad = {-1, 3, 4, Integer.MIN_VALUE, Integer.MAX_VALUE};
        for (int k : bad) {
            SignalKernel x = Checks.holding(SignalKernel.OP_LDA, 1 << 5, SignalKernel.OP_MASK, 0,
                SignalKernel.OP_LDA, 1 << 6, SignalKernel.OP_MASK, k);
            x.run(4);
            checks.registers(x, 0, 4, SignalKernel.EINVAL, 0);
            checks.due("MASK " + k, x.reg(0, SignalKernel.R_MASK), 1 << 5);
        }
    }

    private static void sigact() {
        for (int k = 1; k <= 31; k++) {
            if (k == 9 || k == 15) {
                continue;
            }
            SignalKernel x = Checks.holding(SignalKernel.OP_LDA, 31, SignalKernel.OP_LDB, 13, SignalKernel.OP_SIGACT, k,
                SignalKernel.OP_LDA, SignalKernel.H_IGN, SignalKernel.OP_LDB, -1, SignalKernel.OP_SIGACT, k,
                SignalKernel.OP_LDA, SignalKernel.H_DFL, SignalKernel.OP_SIGACT, k,
                SignalKernel.OP_LDA, 0, SignalKernel.OP_SIGACT, k);
            x.run(3);
            checks.registers(x, 0, 3, SignalKernel.H_DFL, 13);
            checks.due("handler of " + k, x.getAction(0, k, 0), 31);
            checks.due("flags of " + k, x.getAction(0, k, 1), 5);
            x.run(3);
            checks.registers(x, 0, 6, 31, -1);
            checks.due("handler of " + k, x.getAction(0, k, 0), SignalKernel.H_IGN);
            checks.due("flags of " + k, x.getAction(0, k, 1), 7);
            x.run(2);
            checks.registers(x, 0, 8, SignalKernel.H_IGN, -1);
            x.run(2);
            checks.registers(x, 0, 10, SignalKernel.H_DFL, -1);
            checks.due("handler of " + k, x.getAction(0, k, 0), 0);
            checks.due("logTotal()", x.logTotal(), 0);
            checks.due("no serial was issued", x.send(0, 1), 1);
        }
    }

    private static void sigactInTheLastProcess() {
        SignalKernel x = Checks.spinning(4, 1);
        Checks.load(x, 3, 0, SignalKernel.OP_LDA, 6, SignalKernel.OP_LDB, 3, SignalKernel.OP_SIGACT, 31);
        x.run(3);
        for (int pid = 0; pid < 4; pid++) {
            checks.due("getAction(" + pid + ", 31, 0)", x.getAction(pid, 31, 0), pid == 3 ? 6 : SignalKernel.H_DFL);
            checks.due("getAction(" + pid + ", 31, 1)", x.getAction(pid, 31, 1), pid == 3 ? 3 : 0);
        }
    }

    private static void sigactRefusals() {
        int[] badSignals = {Integer.MIN_VALUE, -1, 0, 9, 15, 32, Integer.MAX_VALUE};
        for (int k : badSignals) {
            refusedSigact(k, 5);
            refusedSigact(k, SignalKernel.H_DFL);
        }
        int[] badHandlers = {Integer.MIN_VALUE, -3, 32, Integer.MAX_VALUE};
        for (int handler : badHandlers) {
            refusedSigact(1, handler);
            refusedSigact(31, handler);
        }
    }

    private static void refusedSigact(int k, int handler) {
        SignalKernel x = Checks.holding(SignalKernel.OP_LDA, handler, SignalKernel.OP_LDB, 7, SignalKernel.OP_SIGACT, k);
        x.run(3);
        checks.registers(x, 0, 3, SignalKernel.EINVAL, 7);
        for (int sig = 1; sig <= 31; sig++) {
            checks.due("handler of " + sig, x.getAction(0, sig, 0), SignalKernel.H_DFL);
            checks.due("flags of " + sig, x.getAction(0, sig, 1), 0);
        }
    }

    private static void sigret() {
        SignalKernel x = Checks.holding(SignalKernel.OP_LDA, 4, SignalKernel.OP_LDB, 6, SignalKernel.OP_SIGRET, 1, SignalKernel.OP_JMP, 3);
        x.run(3);
        checks.registers(x, 0, 3, SignalKernel.EINVAL, 6);
        checks.due("SP", x.reg(0, SignalKernel.R_SP), 64);
        checks.due("depth", x.reg(0, SignalKernel.R_DEPTH), 0);
        Checks.load(x, 0, 10, SignalKernel.OP_LDA, -1, SignalKernel.OP_MASK, 2, SignalKernel.OP_LDB, 1, SignalKernel.OP_SIGRET, 0);
        x.setAction(0, 8, 10, 0);
        x.send(0, 8);
        x.run(5);
        checks.registers(x, 0, 3, SignalKernel.EINVAL, 6);
        checks.due("MASK is restored", x.reg(0, SignalKernel.R_MASK), 0);
        checks.due("SP", x.reg(0, SignalKernel.R_SP), 64);
        checks.due("depth", x.reg(0, SignalKernel.R_DEPTH), 0);
        checks.due("the popped frame can't be read", x.frame(0, 0, 0), 0);
        checks.due("no event but the handler's", x.logTotal(), 1);
    }

    private static void out() {
        SignalKernel x = new SignalKernel(2, 1);
        Checks.load(x, 0, 0, SignalKernel.OP_JMP, 0);
        Checks.load(x, 1, 0, SignalKernel.OP_LDA, -9, SignalKernel.OP_LDB, 2, SignalKernel.OP_OUT, 77);
        x.run(3);
        checks.registers(x, 1, 3, -9, 2);
        checks.due("logTotal()", x.logTotal(), 1);
        checks.event(x, 0, SignalKernel.EV_OUT, 1, -9, 0);
        checks.due("logging issues no serial", x.send(0, 1), 1);
    }

    private static void selfPendingSwapNop() {
        SignalKernel x = new SignalKernel(4, 1);
        for (int pid = 0; pid < 4; pid++) {
            Checks.load(x, pid, 0, SignalKernel.OP_LDB, 9, SignalKernel.OP_SELF, 3, SignalKernel.OP_LDA, 8,
                SignalKernel.OP_SWAP, 3, SignalKernel.OP_NOP, 3);
        }
        x.run(2);
        for (int pid = 0; pid < 4; pid++) {
            checks.registers(x, pid, 2, 0, pid);
        }
        x.run(2);
        for (int pid = 0; pid < 4; pid++) {
            checks.registers(x, pid, 4, pid, 8);
        }
        long[] before = Checks.view(x);
        x.run(1);
        for (int pid = 0; pid < 4; pid++) {
            checks.registers(x, pid, 5, pid, 8);
            x.poke(pid, 4, SignalKernel.OP_JMP, 4);
            x.poke(pid, 5, SignalKernel.OP_JMP, 4);
        }
        x.run(1);
        checks.unchanged("NOP and a jump back", x, before);
        x = Checks.holding(SignalKernel.OP_LDA, -1, SignalKernel.OP_MASK, 2, SignalKernel.OP_PENDING, 0, SignalKernel.OP_PENDING, 0);
        x.run(3);
        checks.registers(x, 0, 3, 0, 0);
        x.send(0, 1);
        x.send(0, 14);
        x.send(0, 31);
        x.send(0, 16);
        x.send(0, 31);
        x.run(1);
        checks.registers(x, 0, 4, 1 << 1 | 1 << 14 | 1 << 31 | 1 << 16, 0);
    }

    private static void aStepChangesOneProcess() {
        for (int op = 0; op <= 15; op++) {
            SignalKernel x = new SignalKernel(4, 1);
            SignalKernel y = new SignalKernel(4, 1);
            x.poke(2, 0, op, 1);
            for (int pid = 0; pid < 4; pid++) {
                if (pid != 2) {
                    x.poke(pid, 0, SignalKernel.OP_JMP, 0);
                }
            }
            x.run(1);
            for (int pid = 0; pid < 4; pid++) {
                for (int which = 0; which < 10; which++) {
                    boolean target = op == SignalKernel.OP_KILL && pid == 0;
                    if (pid != 2 && !target) {
                        checks.due("op " + op + ": reg(" + pid + ", " + which + ")", x.reg(pid, which), y.reg(pid, which));
                    }
                }
            }
        }
    }
}
