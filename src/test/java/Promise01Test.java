/** Promise 1: construction and starting state. */
public final class Promise01Test {
    private static final Checks checks = new Checks("Promise01Test");

    public static void main(String[] args) {
        int[] asked = {Integer.MIN_VALUE, -1, 0, 1, 2, 3, 4, 5, 64, Integer.MAX_VALUE};
        int[] given = {1, 1, 1, 1, 2, 3, 4, 4, 4, 4};
        for (int i = 0; i < asked.length; i++) {
            processes(asked[i], given[i]);
            depths(asked[i], given[i]);
        }
        startingValues();
        everyCellHalts();
        objectsAreApart();
        checks.finish();
    }

    private static void processes(int asked, int given) {
        SignalKernel x = new SignalKernel(asked, 2);
        for (int pid = -1; pid <= 5; pid++) {
            checks.due("procs " + asked + ": state(" + pid + ")", x.state(pid), pid >= 0 && pid < given ? 0 : -1);
        }
        checks.due("procs " + asked + ": run(1)", x.run(1), given);
    }

    private static void depths(int asked, int given) {
        SignalKernel x = new SignalKernel(1, asked);
        Checks.load(x, 0, 0, SignalKernel.OP_JMP, 0);
        x.setAction(0, 1, 0, SignalKernel.SA_NODEFER);
        for (int i = 1; i <= given; i++) {
            x.send(0, 1);
            x.run(1);
            checks.due("maxDepth " + asked + ": depth", x.reg(0, SignalKernel.R_DEPTH), i);
            checks.due("maxDepth " + asked + ": SP", x.reg(0, SignalKernel.R_SP), 64 - 4 * i);
        }
        x.send(0, 1);
        x.run(1);
        checks.due("maxDepth " + asked + ": one frame more kills", x.state(0), SignalKernel.KILLED);
        checks.due("maxDepth " + asked + ": depth stays", x.reg(0, SignalKernel.R_DEPTH), given);
    }

    private static void startingValues() {
        SignalKernel x = new SignalKernel(4, 4);
        checks.due("logTotal()", x.logTotal(), 0);
        checks.event(x, 0, 0, 0, 0, 0);
        for (int pid = 0; pid < 4; pid++) {
            checks.due("state(" + pid + ")", x.state(pid), SignalKernel.RUNNING);
            for (int which = 0; which < 10; which++) {
                checks.due("reg(" + pid + ", " + which + ")", x.reg(pid, which), which == 3 ? 64 : 0);
            }
            for (int sig = 1; sig <= 31; sig++) {
                checks.due("getAction(" + pid + ", " + sig + ", 0)", x.getAction(pid, sig, 0), SignalKernel.H_DFL);
                checks.due("getAction(" + pid + ", " + sig + ", 1)", x.getAction(pid, sig, 1), 0);
                checks.due("pendingSerial(" + pid + ", " + sig + ")", x.pendingSerial(pid, sig), 0);
            }
            checks.due("frame(" + pid + ", 0, 0)", x.frame(pid, 0, 0), 0);
            checks.due("queued(" + pid + ", 0, 0)", x.queued(pid, 0, 0), 0);
        }
        checks.due("the first serial", x.send(3, 2), 1);
    }

    private static void everyCellHalts() {
        for (int pid = 0; pid < 4; pid++) {
            for (int addr = 1; addr < 32; addr++) {
                SignalKernel x = new SignalKernel(4, 1);
                Checks.load(x, pid, 0, SignalKernel.OP_JMP, addr);
                x.run(2);
                checks.due("cell " + addr + " halts", x.state(pid), SignalKernel.EXITED);
                checks.due("cell " + addr + " was reached", x.reg(pid, SignalKernel.R_PC), addr);
            }
        }
        SignalKernel x = new SignalKernel(4, 1);
        checks.due("cell 0 of each process: run(1)", x.run(1), 4);
        checks.due("cell 0 of each process: run(1) again", x.run(1), 0);
    }

    private static void objectsAreApart() {
        SignalKernel x = new SignalKernel(2, 2);
        SignalKernel y = new SignalKernel(2, 2);
        long[] before = Checks.view(y);
        x.send(0, 20);
        x.setAction(1, 3, 7, 7);
        x.run(3);
        checks.unchanged("work on another object", y, before);
        checks.due("the other object's first serial", y.send(0, 1), 1);
    }
}
