/** A small kernel that delivers signals among up to four bytecode processes. */
public final class SignalKernel {
    public static final int RUNNING = 0;
    public static final int SLEEPING = 1;
    public static final int STOPPED = 2;
    public static final int EXITED = 3;
    public static final int KILLED = 4;

    public static final int ESRCH = -3;
    public static final int EINTR = -4;
    public static final int EAGAIN = -11;
    public static final int EINVAL = -22;

    public static final int H_DFL = -1;
    public static final int H_IGN = -2;

    public static final int SA_RESTART = 1;
    public static final int SA_NODEFER = 2;
    public static final int SA_RESETHAND = 4;

    public static final int SIGKILL = 9;
    public static final int SIGSEGV = 11;
    public static final int SIGTSTP = 12;
    public static final int SIGCHLD = 13;
    public static final int SIGCONT = 14;
    public static final int SIGSTOP = 15;
    public static final int SIGRTMIN = 16;
    public static final int SIGRTMAX = 31;

    public static final int OP_HALT = 0;
    public static final int OP_LDA = 1;
    public static final int OP_LDB = 2;
    public static final int OP_ADD = 3;
    public static final int OP_JMP = 4;
    public static final int OP_JNZ = 5;
    public static final int OP_KILL = 6;
    public static final int OP_MASK = 7;
    public static final int OP_SIGACT = 8;
    public static final int OP_SLEEP = 9;
    public static final int OP_SIGRET = 10;
    public static final int OP_OUT = 11;
    public static final int OP_SELF = 12;
    public static final int OP_PENDING = 13;
    public static final int OP_SWAP = 14;
    public static final int OP_NOP = 15;

    public static final int R_PC = 0;
    public static final int R_A = 1;
    public static final int R_B = 2;
    public static final int R_SP = 3;
    public static final int R_MASK = 4;
    public static final int R_DEPTH = 5;
    public static final int R_SLEEP = 6;
    public static final int R_STATUS = 7;
    public static final int R_PENDING = 8;
    public static final int R_QUEUED = 9;

    public static final int EV_HANDLER = 1;
    public static final int EV_TERM = 2;
    public static final int EV_STOP = 3;
    public static final int EV_IGNORE = 4;
    public static final int EV_CONT = 5;
    public static final int EV_OUT = 6;
    public static final int EV_EXIT = 7;

    public static final int CODE_CELLS = 32;
    public static final int QUEUE_CAP = 8;
    public static final int LOG_CAP = 128;
    public static final int SP_INIT = 64;
    public static final int FRAME_SIZE = 4;

    private static final int MAX_PROCS = 4;
    private static final int MAX_DEPTH = 4;
    private static final int MAX_ROUNDS = 64;
    private static final int ALIVE = 0;
    private static final int FLAG_BITS = SA_RESTART | SA_NODEFER | SA_RESETHAND;
    // Bit 0 belongs to no signal, and KILL and STOP can't be blocked.
    private static final int MASKABLE = ~(1 | 1 << SIGKILL | 1 << SIGSTOP);

    // Slots per process in the tables that are indexed by a signal's own number.
    private static final int STANDARD_SLOTS = 16;
    private static final int ACTION_SLOTS = 32;

    private static final int ALL_CELLS = MAX_PROCS * CODE_CELLS;
    private static final int ALL_FRAMES = MAX_PROCS * MAX_DEPTH;
    private static final int ALL_STANDARD = MAX_PROCS * STANDARD_SLOTS;
    private static final int ALL_ENTRIES = MAX_PROCS * QUEUE_CAP;
    private static final int ALL_ACTIONS = MAX_PROCS * ACTION_SLOTS;

    private final int procs;
    private final int depthLimit;
    private int lastSerial = 0;

    private final int[] codeOp = new int[ALL_CELLS];
    private final int[] codeArg = new int[ALL_CELLS];

    private final int[] pc = new int[MAX_PROCS];
    private final int[] a = new int[MAX_PROCS];
    private final int[] b = new int[MAX_PROCS];
    private final int[] sp = new int[MAX_PROCS];
    private final int[] mask = new int[MAX_PROCS];

    private final int[] depth = new int[MAX_PROCS];
    private final int[] framePc = new int[ALL_FRAMES];
    private final int[] frameA = new int[ALL_FRAMES];
    private final int[] frameB = new int[ALL_FRAMES];
    private final int[] frameMask = new int[ALL_FRAMES];

    private final int[] sleepLeft = new int[MAX_PROCS];
    private final boolean[] stopped = new boolean[MAX_PROCS];
    private final int[] life = new int[MAX_PROCS];
    private final int[] status = new int[MAX_PROCS];

    private final int[] pending = new int[MAX_PROCS];
    private final int[] standardSerial = new int[ALL_STANDARD];

    private final int[] queueLength = new int[MAX_PROCS];
    private final int[] queueSignal = new int[ALL_ENTRIES];
    private final int[] queueSerial = new int[ALL_ENTRIES];

    private final int[] actionHandler = new int[ALL_ACTIONS];
    private final int[] actionFlags = new int[ALL_ACTIONS];

    // The total may wrap around in a very long run, so it can't bound the log's index.
    private int eventsTotal = 0;
    private int eventsStored = 0;
    private final int[] eventKind = new int[LOG_CAP];
    private final int[] eventPid = new int[LOG_CAP];
    private final int[] eventValue = new int[LOG_CAP];
    private final int[] eventSerial = new int[LOG_CAP];

    public SignalKernel(int procs, int maxDepth) {
        this.procs = clamp(procs, 1, MAX_PROCS);
        this.depthLimit = clamp(maxDepth, 1, MAX_DEPTH);
        for (int pid = 0; pid < MAX_PROCS; pid++) {
            sp[pid] = SP_INIT;
        }
        for (int slot = 0; slot < ALL_ACTIONS; slot++) {
            actionHandler[slot] = H_DFL;
        }
    }

    public int poke(int pid, int addr, int op, int arg) {
        if (!isPid(pid)) {
            return ESRCH;
        }
        if (!isCell(addr) || op < OP_HALT || op > OP_NOP) {
            return EINVAL;
        }
        int cell = pid * CODE_CELLS + addr;
        codeOp[cell] = op;
        codeArg[cell] = arg;
        return 0;
    }

    public int setAction(int pid, int sig, int handler, int flags) {
        if (!isAlive(pid)) {
            return ESRCH;
        }
        if (!isCatchable(sig) || !isHandler(handler)) {
            return EINVAL;
        }
        int slot = pid * ACTION_SLOTS + sig;
        int old = actionHandler[slot];
        actionHandler[slot] = handler;
        actionFlags[slot] = flags & FLAG_BITS;
        return old;
    }

    public int send(int dst, int sig) {
        if (!isSignal(sig)) {
            return EINVAL;
        }
        if (!isAlive(dst)) {
            return ESRCH;
        }
        if (sig >= SIGRTMIN && queueLength[dst] >= QUEUE_CAP) {
            return EAGAIN;
        }
        if (sig == SIGKILL) {
            int serial = issueSerial();
            terminate(dst, SIGKILL, serial);
            return serial;
        }
        dropOpposites(dst, sig);
        boolean resumed = sig == SIGCONT && stopped[dst];
        if (resumed) {
            stopped[dst] = false;
        }
        int answer = sig >= SIGRTMIN ? enqueue(dst, sig) : markPending(dst, sig);
        if (resumed) {
            logEvent(EV_CONT, dst, SIGCONT, answer);
        }
        return answer;
    }

    public int run(int rounds) {
        int wanted = clamp(rounds, 0, MAX_ROUNDS);
        int counted = 0;
        for (int round = 0; round < wanted; round++) {
            for (int pid = 0; pid < procs; pid++) {
                if (life[pid] == ALIVE && !stopped[pid]) {
                    step(pid);
                    counted++;
                }
            }
        }
        return counted;
    }

    public int state(int pid) {
        if (!isPid(pid)) {
            return -1;
        }
        if (life[pid] != ALIVE) {
            return life[pid];
        }
        if (stopped[pid]) {
            return STOPPED;
        }
        return sleepLeft[pid] > 0 ? SLEEPING : RUNNING;
    }

    public int reg(int pid, int which) {
        if (!isPid(pid)) {
            return 0;
        }
        switch (which) {
            case R_PC:
                return pc[pid];
            case R_A:
                return a[pid];
            case R_B:
                return b[pid];
            case R_SP:
                return sp[pid];
            case R_MASK:
                return mask[pid];
            case R_DEPTH:
                return depth[pid];
            case R_SLEEP:
                return sleepLeft[pid];
            case R_STATUS:
                return status[pid];
            case R_PENDING:
                return allPending(pid);
            case R_QUEUED:
                return queueLength[pid];
            default:
                return 0;
        }
    }

    public int frame(int pid, int level, int field) {
        if (!isPid(pid) || level < 0 || level >= depth[pid]) {
            return 0;
        }
        int slot = pid * MAX_DEPTH + level;
        switch (field) {
            case 0:
                return framePc[slot];
            case 1:
                return frameA[slot];
            case 2:
                return frameB[slot];
            case 3:
                return frameMask[slot];
            default:
                return 0;
        }
    }

    public int queued(int pid, int index, int field) {
        if (!isPid(pid) || index < 0 || index >= queueLength[pid]) {
            return 0;
        }
        int slot = pid * QUEUE_CAP + index;
        switch (field) {
            case 0:
                return queueSignal[slot];
            case 1:
                return queueSerial[slot];
            default:
                return 0;
        }
    }

    public int pendingSerial(int pid, int sig) {
        if (!isPid(pid) || sig < 1 || sig >= SIGRTMIN) {
            return 0;
        }
        return standardSerial[pid * STANDARD_SLOTS + sig];
    }

    public int getAction(int pid, int sig, int field) {
        if (!isPid(pid) || !isSignal(sig)) {
            return 0;
        }
        int slot = pid * ACTION_SLOTS + sig;
        switch (field) {
            case 0:
                return actionHandler[slot];
            case 1:
                return actionFlags[slot];
            default:
                return 0;
        }
    }

    public int logTotal() {
        return eventsTotal;
    }

    public int logField(int index, int field) {
        if (index < 0 || index >= eventsStored) {
            return 0;
        }
        switch (field) {
            case 0:
                return eventKind[index];
            case 1:
                return eventPid[index];
            case 2:
                return eventValue[index];
            case 3:
                return eventSerial[index];
            default:
                return 0;
        }
    }

    private static int clamp(int value, int least, int greatest) {
        if (value < least) {
            return least;
        }
        return value > greatest ? greatest : value;
    }

    private static boolean isSignal(int sig) {
        return sig >= 1 && sig <= SIGRTMAX;
    }

    private static boolean isCatchable(int sig) {
        return isSignal(sig) && sig != SIGKILL && sig != SIGSTOP;
    }

    private static boolean isCell(int addr) {
        return addr >= 0 && addr < CODE_CELLS;
    }

    private static boolean isHandler(int handler) {
        return handler == H_DFL || handler == H_IGN || isCell(handler);
    }

    private boolean isPid(int pid) {
        return pid >= 0 && pid < procs;
    }

    private boolean isAlive(int pid) {
        return isPid(pid) && life[pid] == ALIVE;
    }

    private int issueSerial() {
        lastSerial += 1;
        return lastSerial;
    }

    private void logEvent(int kind, int pid, int value, int serial) {
        eventsTotal += 1;
        if (eventsStored >= LOG_CAP) {
            return;
        }
        eventKind[eventsStored] = kind;
        eventPid[eventsStored] = pid;
        eventValue[eventsStored] = value;
        eventSerial[eventsStored] = serial;
        eventsStored += 1;
    }

    private void die(int pid, int how, int finalStatus) {
        life[pid] = how;
        status[pid] = finalStatus;
        pending[pid] = 0;
        for (int sig = 0; sig < STANDARD_SLOTS; sig++) {
            standardSerial[pid * STANDARD_SLOTS + sig] = 0;
        }
        queueLength[pid] = 0;
        sleepLeft[pid] = 0;
        stopped[pid] = false;
    }

    private void terminate(int pid, int sig, int serial) {
        die(pid, KILLED, sig);
        logEvent(EV_TERM, pid, sig, serial);
    }

    private void dropOpposites(int pid, int sig) {
        if (sig == SIGTSTP || sig == SIGSTOP) {
            dropPending(pid, SIGCONT);
        }
        if (sig == SIGCONT) {
            dropPending(pid, SIGTSTP);
            dropPending(pid, SIGSTOP);
        }
    }

    private void dropPending(int pid, int sig) {
        pending[pid] &= ~(1 << sig);
        standardSerial[pid * STANDARD_SLOTS + sig] = 0;
    }

    private int markPending(int pid, int sig) {
        if ((pending[pid] & 1 << sig) != 0) {
            return 0;
        }
        int serial = issueSerial();
        pending[pid] |= 1 << sig;
        standardSerial[pid * STANDARD_SLOTS + sig] = serial;
        return serial;
    }

    private int enqueue(int pid, int sig) {
        int serial = issueSerial();
        int slot = pid * QUEUE_CAP + queueLength[pid];
        queueSignal[slot] = sig;
        queueSerial[slot] = serial;
        queueLength[pid] += 1;
        return serial;
    }

    private void removeEntry(int pid, int index) {
        int first = pid * QUEUE_CAP;
        int last = queueLength[pid] - 1;
        for (int i = index; i < last; i++) {
            queueSignal[first + i] = queueSignal[first + i + 1];
            queueSerial[first + i] = queueSerial[first + i + 1];
        }
        queueLength[pid] = last;
    }

    private int allPending(int pid) {
        int bits = pending[pid];
        for (int i = 0; i < queueLength[pid]; i++) {
            bits |= 1 << queueSignal[pid * QUEUE_CAP + i];
        }
        return bits;
    }

    /** Answers the lowest deliverable standard signal, or 0. */
    private int lowestDeliverable(int pid) {
        int ready = pending[pid] & ~mask[pid];
        for (int sig = 1; sig < SIGRTMIN; sig++) {
            if ((ready & 1 << sig) != 0) {
                return sig;
            }
        }
        return 0;
    }

    /** Answers the index of the earliest deliverable queue entry, or -1. */
    private int earliestDeliverable(int pid) {
        for (int i = 0; i < queueLength[pid]; i++) {
            int bit = 1 << queueSignal[pid * QUEUE_CAP + i];
            if ((mask[pid] & bit) == 0) {
                return i;
            }
        }
        return -1;
    }

    private void step(int pid) {
        if (deliver(pid)) {
            return;
        }
        if (sleepLeft[pid] > 0) {
            sleepOn(pid);
        } else if (isCell(pc[pid])) {
            execute(pid);
        } else {
            terminate(pid, SIGSEGV, 0);
        }
    }

    /** Delivers one signal if one is deliverable, and answers whether it did. */
    private boolean deliver(int pid) {
        int sig = lowestDeliverable(pid);
        if (sig != 0) {
            int serial = standardSerial[pid * STANDARD_SLOTS + sig];
            dropPending(pid, sig);
            act(pid, sig, serial);
            return true;
        }
        int index = earliestDeliverable(pid);
        if (index < 0) {
            return false;
        }
        int slot = pid * QUEUE_CAP + index;
        int queuedSig = queueSignal[slot];
        int queuedSerial = queueSerial[slot];
        removeEntry(pid, index);
        act(pid, queuedSig, queuedSerial);
        return true;
    }

    private void act(int pid, int sig, int serial) {
        int handler = actionHandler[pid * ACTION_SLOTS + sig];
        if (handler >= 0) {
            if (depth[pid] < depthLimit) {
                enterHandler(pid, sig, serial);
            } else {
                terminate(pid, SIGSEGV, serial);
            }
        } else if (handler == H_IGN || sig == SIGCHLD || sig == SIGCONT) {
            logEvent(EV_IGNORE, pid, sig, serial);
        } else if (sig == SIGTSTP || sig == SIGSTOP) {
            stopped[pid] = true;
            logEvent(EV_STOP, pid, sig, serial);
        } else {
            terminate(pid, sig, serial);
        }
    }

    private void enterHandler(int pid, int sig, int serial) {
        int slot = pid * ACTION_SLOTS + sig;
        int handler = actionHandler[slot];
        int flags = actionFlags[slot];
        pushFrame(pid, (flags & SA_RESTART) != 0);
        if ((flags & SA_NODEFER) == 0) {
            mask[pid] = (mask[pid] | 1 << sig) & MASKABLE;
        }
        a[pid] = sig;
        b[pid] = serial;
        pc[pid] = handler;
        if ((flags & SA_RESETHAND) != 0) {
            actionHandler[slot] = H_DFL;
            actionFlags[slot] = 0;
        }
        logEvent(EV_HANDLER, pid, sig, serial);
    }

    private void pushFrame(int pid, boolean restart) {
        // A broken sleep that isn't restarted looks, after the return, like one that failed.
        boolean interrupted = sleepLeft[pid] > 0 && !restart;
        sleepLeft[pid] = 0;
        int slot = pid * MAX_DEPTH + depth[pid];
        framePc[slot] = interrupted ? pc[pid] + 1 : pc[pid];
        frameA[slot] = interrupted ? EINTR : a[pid];
        frameB[slot] = b[pid];
        frameMask[slot] = mask[pid];
        depth[pid] += 1;
        sp[pid] -= FRAME_SIZE;
    }

    private void popFrame(int pid) {
        depth[pid] -= 1;
        int slot = pid * MAX_DEPTH + depth[pid];
        pc[pid] = framePc[slot];
        a[pid] = frameA[slot];
        b[pid] = frameB[slot];
        mask[pid] = frameMask[slot];
        sp[pid] += FRAME_SIZE;
    }

    private void sleepOn(int pid) {
        sleepLeft[pid] -= 1;
        if (sleepLeft[pid] == 0) {
            a[pid] = 0;
            pc[pid] += 1;
        }
    }

    private void execute(int pid) {
        int cell = pid * CODE_CELLS + pc[pid];
        int op = codeOp[cell];
        int k = codeArg[cell];
        switch (op) {
            case OP_HALT:
                die(pid, EXITED, a[pid]);
                logEvent(EV_EXIT, pid, a[pid], 0);
                break;
            case OP_JMP:
                pc[pid] = k;
                break;
            case OP_JNZ:
                pc[pid] = a[pid] != 0 ? k : pc[pid] + 1;
                break;
            case OP_KILL:
                int answer = send(b[pid], k);
                if (life[pid] == ALIVE) {
                    a[pid] = answer;
                    pc[pid] += 1;
                }
                break;
            case OP_SIGACT:
                a[pid] = setAction(pid, k, a[pid], b[pid]);
                pc[pid] += 1;
                break;
            case OP_SLEEP:
                fallAsleep(pid, k);
                break;
            case OP_SIGRET:
                returnFromHandler(pid);
                break;
            default:
                compute(pid, op, k);
                pc[pid] += 1;
                break;
        }
    }

    private void fallAsleep(int pid, int steps) {
        if (steps > 0) {
            sleepLeft[pid] = steps;
        } else {
            a[pid] = 0;
            pc[pid] += 1;
        }
    }

    private void returnFromHandler(int pid) {
        if (depth[pid] > 0) {
            popFrame(pid);
        } else {
            a[pid] = EINVAL;
            pc[pid] += 1;
        }
    }

    /** Runs the instructions that neither move PC themselves nor call the public face. */
    private void compute(int pid, int op, int k) {
        switch (op) {
            case OP_LDA:
                a[pid] = k;
                break;
            case OP_LDB:
                b[pid] = k;
                break;
            case OP_ADD:
                a[pid] += k;
                break;
            case OP_MASK:
                changeMask(pid, k);
                break;
            case OP_OUT:
                logEvent(EV_OUT, pid, a[pid], 0);
                break;
            case OP_SELF:
                b[pid] = pid;
                break;
            case OP_PENDING:
                a[pid] = allPending(pid);
                break;
            case OP_SWAP:
                int oldA = a[pid];
                a[pid] = b[pid];
                b[pid] = oldA;
                break;
            default:
                break;
        }
    }

    private void changeMask(int pid, int how) {
        int old = mask[pid];
        int changed;
        switch (how) {
            case 0:
                changed = old | a[pid];
                break;
            case 1:
                changed = old & ~a[pid];
                break;
            case 2:
                changed = a[pid];
                break;
            default:
                a[pid] = EINVAL;
                return;
        }
        mask[pid] = changed & MASKABLE;
        a[pid] = old;
    }
}
