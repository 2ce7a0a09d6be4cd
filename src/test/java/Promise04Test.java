/** Promise 4: send. */
public final class Promise04Test {
    private static final Checks checks = new Checks("Promise04Test");

    public static void main(String[] args) {
        refusals();
        fullQueue();
        standardSignalsCoalesce();
        realTimeSignalsQueue();
        kill();
        killClearsEverything();
        stopDropsCont();
        contDropsStops();
        contResumes();
        onlyContResumes();
        blockedSendsAreTaken();
        leavesTheRestAlone();
        checks.finish();
    }

    private static void refusals() {
        SignalKernel x = Checks.spinning(3, 1);
        Checks.load(x, 2, 0, SignalKernel.OP_HALT, 0);
        x.send(1, 9);
        x.run(1);
        long[] before = Checks.view(x);
        int[] badSignals = {Integer.MIN_VALUE, -1, 0, 32, 33, Integer.MAX_VALUE};
        int[] badPids = {Integer.MIN_VALUE, -1, 3, 4, Integer.MAX_VALUE, 1, 2};
        for (int sig : badSignals) {
            checks.due("send(0, " + sig + ")", x.send(0, sig), SignalKernel.EINVAL);
            for (int dst : badPids) {
                checks.due("send(" + dst + ", " + sig + ")", x.send(dst, sig), SignalKernel.EINVAL);
            }
        }
        for (int dst : badPids) {
            for (int sig = 1; sig <= 31; sig++) {
                checks.due("send(" + dst + ", " + sig + ")", x.send(dst, sig), SignalKernel.ESRCH);
            }
        }
        checks.unchanged("a refused send", x, before);
        checks.due("a refused send issues no serial", x.send(0, 1), 2);
    }

    private static void fullQueue() {
        SignalKernel x = Checks.spinning(2, 1);
        for (int i = 0; i < 8; i++) {
            checks.due("send(0, " + (16 + i) + ")", x.send(0, 16 + i), i + 1);
        }
        long[] before = Checks.view(x);
        for (int sig = 16; sig <= 31; sig++) {
            checks.due("send(0, " + sig + ") on a full queue", x.send(0, sig), SignalKernel.EAGAIN);
        }
        checks.unchanged("a send to a full queue", x, before);
        checks.due("the other queue is its own", x.send(1, 31), 9);
        checks.due("a standard signal needs no room", x.send(0, 15), 10);
        checks.due("KILL needs no room", x.send(0, 9), 11);
        checks.due("the dead come before the full", x.send(0, 16), SignalKernel.ESRCH);
    }

    private static void standardSignalsCoalesce() {
        for (int sig = 1; sig <= 15; sig++) {
            if (sig == 9) {
                continue;
            }
            SignalKernel x = Checks.spinning(2, 1);
            checks.due("send(1, 16)", x.send(1, 16), 1);
            checks.due("send(0, " + sig + ")", x.send(0, sig), 2);
            long[] before = Checks.view(x);
            checks.due("send(0, " + sig + ") again", x.send(0, sig), 0);
            checks.due("send(0, " + sig + ") again", x.send(0, sig), 0);
            checks.unchanged("a coalesced send", x, before);
            checks.due("pendingSerial(0, " + sig + ")", x.pendingSerial(0, sig), 2);
            checks.due("reg(0, R_PENDING)", x.reg(0, SignalKernel.R_PENDING), 1 << sig);
            checks.due("reg(0, R_QUEUED)", x.reg(0, SignalKernel.R_QUEUED), 0);
            checks.due("send(1, " + sig + ")", x.send(1, sig), 3);
            checks.due("nothing was logged", x.logTotal(), 0);
        }
    }

    private static void realTimeSignalsQueue() {
        SignalKernel x = Checks.spinning(2, 1);
        int[] order = {31, 16, 31, 20, 16, 16, 17, 31};
        for (int i = 0; i < 8; i++) {
            checks.due("send(1, " + order[i] + ")", x.send(1, order[i]), i + 1);
        }
        for (int i = 0; i < 8; i++) {
            checks.due("queued(1, " + i + ", 0)", x.queued(1, i, 0), order[i]);
            checks.due("queued(1, " + i + ", 1)", x.queued(1, i, 1), i + 1);
        }
        checks.due("reg(1, R_PENDING)", x.reg(1, SignalKernel.R_PENDING), 1 << 31 | 1 << 16 | 1 << 20 | 1 << 17);
        checks.due("reg(0, R_QUEUED)", x.reg(0, SignalKernel.R_QUEUED), 0);
    }

    private static void kill() {
        SignalKernel x = Checks.spinning(2, 1);
        x.send(1, 3);
        checks.due("send(0, 9)", x.send(0, 9), 2);
        checks.due("state(0)", x.state(0), SignalKernel.KILLED);
        checks.due("reg(0, R_STATUS)", x.reg(0, SignalKernel.R_STATUS), 9);
        checks.due("logTotal()", x.logTotal(), 1);
        checks.event(x, 0, SignalKernel.EV_TERM, 0, 9, 2);
        checks.due("the other lives", x.state(1), SignalKernel.RUNNING);
        checks.due("send(1, 9)", x.send(1, 9), 3);
        checks.event(x, 1, SignalKernel.EV_TERM, 1, 9, 3);
        checks.due("run(3)", x.run(3), 0);
    }

    private static void killClearsEverything() {
        SignalKernel x = new SignalKernel(1, 2);
        Checks.load(x, 0, 0, SignalKernel.OP_JMP, 0);
        Checks.load(x, 0, 5, SignalKernel.OP_SLEEP, 9);
        x.setAction(0, 2, 5, SignalKernel.SA_RESTART);
        x.send(0, 2);
        x.run(2);
        x.send(0, 15);
        x.run(1);
        for (int sig = 1; sig <= 15; sig++) {
            if (sig != 9 && sig != 14) {
                x.send(0, sig);
            }
        }
        for (int i = 0; i < 8; i++) {
            x.send(0, 24 + i);
        }
        checks.due("asleep below the stop", x.reg(0, SignalKernel.R_SLEEP), 9);
        checks.due("stopped", x.state(0), SignalKernel.STOPPED);
        int serial = x.send(0, 9);
        checks.due("KILL needs no resume", x.state(0), SignalKernel.KILLED);
        checks.lastEvent(x, SignalKernel.EV_TERM, 0, 9, serial);
        checks.due("reg(0, R_SLEEP)", x.reg(0, SignalKernel.R_SLEEP), 0);
        checks.due("reg(0, R_PENDING)", x.reg(0, SignalKernel.R_PENDING), 0);
        checks.due("reg(0, R_QUEUED)", x.reg(0, SignalKernel.R_QUEUED), 0);
        for (int i = 0; i < 16; i++) {
            checks.due("pendingSerial(0, " + i + ")", x.pendingSerial(0, i), 0);
            checks.due("queued(0, " + i / 2 + ", " + i % 2 + ")", x.queued(0, i / 2, i % 2), 0);
        }
        checks.registers(x, 0, 5, 2, 1);
        checks.due("depth stays", x.reg(0, SignalKernel.R_DEPTH), 1);
        checks.due("SP stays", x.reg(0, SignalKernel.R_SP), 60);
        checks.due("MASK stays", x.reg(0, SignalKernel.R_MASK), 1 << 2);
        checks.due("dispositions stay", x.getAction(0, 2, 0), 5);
        checks.frame(x, 0, 0, 0, 0, 0);
    }

    private static void stopDropsCont() {
        for (int pid = 0; pid < 4; pid++) {
            stopDropsContOf(pid, 12);
            stopDropsContOf(pid, 15);
        }
    }

    private static void stopDropsContOf(int pid, int stop) {
        SignalKernel x = Checks.spinning(4, 1);
        int other = (pid + 1) % 4;
        x.send(pid, 14);
        x.send(other, 14);
        x.send(pid, 13);
        checks.due("send(" + pid + ", " + stop + ")", x.send(pid, stop), 4);
        checks.due("14 is dropped", x.reg(pid, SignalKernel.R_PENDING), 1 << 13 | 1 << stop);
        checks.due("with its serial", x.pendingSerial(pid, 14), 0);
        checks.due("13 is kept", x.pendingSerial(pid, 13), 3);
        checks.due("the other's 14 is kept", x.pendingSerial(other, 14), 2);
        checks.due("the other stop joins it", x.send(pid, 27 - stop), 5);
        checks.due("both stops are pending", x.reg(pid, SignalKernel.R_PENDING), 1 << 13 | 1 << 12 | 1 << 15);
        checks.due("nothing was logged", x.logTotal(), 0);
    }

    private static void contDropsStops() {
        SignalKernel x = Checks.spinning(2, 1);
        x.send(0, 12);
        x.send(0, 15);
        x.send(0, 11);
        x.send(1, 12);
        x.send(1, 15);
        checks.due("send(0, 14)", x.send(0, 14), 6);
        checks.due("12 and 15 are dropped", x.reg(0, SignalKernel.R_PENDING), 1 << 11 | 1 << 14);
        checks.due("pendingSerial(0, 12)", x.pendingSerial(0, 12), 0);
        checks.due("pendingSerial(0, 15)", x.pendingSerial(0, 15), 0);
        checks.due("pendingSerial(0, 14)", x.pendingSerial(0, 14), 6);
        checks.due("the other's stops are kept", x.reg(1, SignalKernel.R_PENDING), 1 << 12 | 1 << 15);
        checks.due("one that was not stopped is not resumed", x.logTotal(), 0);
        checks.due("send(0, 12) is new again", x.send(0, 12), 7);
        checks.due("and drops the 14", x.pendingSerial(0, 14), 0);
    }

    private static void contResumes() {
        int[] stops = {12, 15};
        for (int stop : stops) {
            SignalKernel x = Checks.spinning(3, 1);
            x.send(1, stop);
            x.send(2, stop);
            x.run(1);
            checks.due("state(1)", x.state(1), SignalKernel.STOPPED);
            x.send(1, 12);
            x.send(1, 15);
            checks.due("send(1, 14)", x.send(1, 14), 5);
            checks.due("state(1)", x.state(1), SignalKernel.RUNNING);
            checks.due("logTotal()", x.logTotal(), 3);
            checks.event(x, 2, SignalKernel.EV_CONT, 1, 14, 5);
            checks.due("only 14 is pending", x.reg(1, SignalKernel.R_PENDING), 1 << 14);
            checks.due("the other stays stopped", x.state(2), SignalKernel.STOPPED);
            checks.due("14 again", x.send(1, 14), 0);
            checks.due("logs nothing", x.logTotal(), 3);
        }
        contResumesWhateverTheDisposition();
    }

    private static void contResumesWhateverTheDisposition() {
        int[] handlers = {SignalKernel.H_DFL, SignalKernel.H_IGN, 3};
        for (int handler : handlers) {
            SignalKernel x = new SignalKernel(1, 1);
            Checks.load(x, 0, 0, SignalKernel.OP_LDA, 1 << 14, SignalKernel.OP_MASK, 0, SignalKernel.OP_SLEEP, 6);
            x.setAction(0, 14, handler, 0);
            x.run(4);
            x.send(0, 15);
            x.run(1);
            checks.due("state(0)", x.state(0), SignalKernel.STOPPED);
            checks.due("send(0, 14), blocked", x.send(0, 14), 2);
            checks.due("state(0)", x.state(0), SignalKernel.SLEEPING);
            checks.due("sleep-left is kept", x.reg(0, SignalKernel.R_SLEEP), 5);
            checks.lastEvent(x, SignalKernel.EV_CONT, 0, 14, 2);
        }
    }

    private static void onlyContResumes() {
        SignalKernel x = Checks.spinning(1, 1);
        x.send(0, 15);
        x.run(1);
        for (int sig = 1; sig <= 31; sig++) {
            if (sig != 9 && sig != 14) {
                x.send(0, sig);
                checks.due("stopped after send(0, " + sig + ")", x.state(0), SignalKernel.STOPPED);
            }
        }
        checks.due("logTotal()", x.logTotal(), 1);
        checks.due("run(4)", x.run(4), 0);
    }

    private static void blockedSendsAreTaken() {
        SignalKernel x = new SignalKernel(1, 1);
        Checks.load(x, 0, 0, SignalKernel.OP_LDA, -1, SignalKernel.OP_MASK, 2, SignalKernel.OP_JMP, 2);
        x.run(3);
        int mask = ~(1 | 1 << 9 | 1 << 15);
        checks.due("reg(0, R_MASK)", x.reg(0, SignalKernel.R_MASK), mask);
        checks.due("send(0, 1)", x.send(0, 1), 1);
        checks.due("send(0, 31)", x.send(0, 31), 2);
        checks.due("run(5)", x.run(5), 5);
        checks.due("reg(0, R_PENDING)", x.reg(0, SignalKernel.R_PENDING), 1 << 1 | 1 << 31);
        checks.due("send(0, 9), never blocked", x.send(0, 9), 3);
        checks.due("state(0)", x.state(0), SignalKernel.KILLED);
    }

    private static void leavesTheRestAlone() {
        SignalKernel x = new SignalKernel(2, 2);
        Checks.load(x, 0, 0, SignalKernel.OP_LDB, 8, SignalKernel.OP_LDA, 3, SignalKernel.OP_SLEEP, 9);
        Checks.load(x, 0, 10, SignalKernel.OP_SLEEP, 7);
        x.setAction(0, 4, 10, SignalKernel.SA_RESTART);
        x.run(4);
        x.send(0, 4);
        x.run(3);
        for (int sig = 1; sig <= 31; sig++) {
            if (sig != 9) {
                x.send(0, sig);
            }
        }
        checks.registers(x, 0, 10, 4, 1);
        checks.due("SP", x.reg(0, SignalKernel.R_SP), 60);
        checks.due("MASK", x.reg(0, SignalKernel.R_MASK), 1 << 4);
        checks.due("depth", x.reg(0, SignalKernel.R_DEPTH), 1);
        checks.due("sleep-left", x.reg(0, SignalKernel.R_SLEEP), 6);
        checks.frame(x, 0, 2, 3, 8, 0);
        checks.due("disposition", x.getAction(0, 4, 0), 10);
        checks.due("flags", x.getAction(0, 4, 1), SignalKernel.SA_RESTART);
    }
}
