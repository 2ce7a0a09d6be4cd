/** Promise 10: pendingSerial. */
public final class Promise10Test {
    private static final Checks checks = new Checks("Promise10Test");

    public static void main(String[] args) {
        everyStandardSignal();
        wrongArguments();
        lifeOfASerial();
        checks.finish();
    }

    private static void everyStandardSignal() {
        SignalKernel x = Checks.spinning(2, 1);
        int[] due = new int[16];
        for (int sig = 15; sig >= 1; sig--) {
            if (sig != 9 && sig != 14) {
                due[sig] = x.send(1, sig);
            }
        }
        long[] before = Checks.view(x);
        for (int sig = 1; sig <= 15; sig++) {
            checks.due("pendingSerial(1, " + sig + ")", x.pendingSerial(1, sig), due[sig]);
            checks.due("pendingSerial(0, " + sig + ")", x.pendingSerial(0, sig), 0);
        }
        checks.unchanged("pendingSerial", x, before);
        checks.due("the first sent", due[15], 1);
        checks.due("the last sent", due[1], 13);
    }

    private static void wrongArguments() {
        SignalKernel x = Checks.spinning(2, 1);
        x.send(0, 1);
        x.send(1, 1);
        for (int sig = 16; sig < 24; sig++) {
            x.send(0, sig);
        }
        int[] badSignals = {Integer.MIN_VALUE, -16, -15, -1, 0, 16, 17, 23, 31, 32, Integer.MAX_VALUE};
        for (int sig : badSignals) {
            checks.due("pendingSerial(0, " + sig + ")", x.pendingSerial(0, sig), 0);
            checks.due("pendingSerial(1, " + sig + ")", x.pendingSerial(1, sig), 0);
        }
        int[] badPids = {Integer.MIN_VALUE, -1, 2, 3, 4, Integer.MAX_VALUE};
        for (int pid : badPids) {
            checks.due("pendingSerial(" + pid + ", 1)", x.pendingSerial(pid, 1), 0);
        }
    }

    private static void lifeOfASerial() {
        SignalKernel x = Checks.spinning(1, 1);
        x.send(0, 14);
        x.send(0, 13);
        checks.due("pendingSerial(0, 13)", x.pendingSerial(0, 13), 2);
        x.run(1);
        checks.due("delivered", x.pendingSerial(0, 13), 0);
        checks.due("not yet delivered", x.pendingSerial(0, 14), 1);
        x.send(0, 13);
        checks.due("sent anew", x.pendingSerial(0, 13), 3);
        x.send(0, 12);
        checks.due("dropped", x.pendingSerial(0, 14), 0);
        x.send(0, 9);
        checks.due("dead", x.pendingSerial(0, 12), 0);
        checks.due("dead", x.pendingSerial(0, 13), 0);
    }
}
