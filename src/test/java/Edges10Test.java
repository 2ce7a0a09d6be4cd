/** The edges that promise 10 names, a test for each sentence. */
public final class Edges10Test implements Numbers {
    private static final Checks checks = new Checks("Edges10Test");

    public static void main(String[] args) {
        standardSignals();
        notPending();
        invalidSignals();
        invalidPids();
        changesNothing();
        checks.finish();
    }

    private static void standardSignals() {
        checks.sentence("`pendingSerial(pid, sig)` answers the serial of the pending instance of standard signal `sig` (1..15) of `pid`.");
        for (int pid = 0; pid < 4; pid++) {
            for (int sig = 1; sig <= 15; sig++) {
                if (sig == 9) {
                    continue;
                }
                SignalKernel x = Checks.spinning(4, 1);
                x.send((pid + 1) % 4, sig);
                x.send(pid, sig);
                for (int other = 0; other <= 16; other++) {
                    checks.due("pendingSerial(" + pid + ", " + other + ") of " + sig, x.pendingSerial(pid, other), other == sig ? 2 : 0);
                }
                x.send(pid, sig);
                checks.due("after a second send", x.pendingSerial(pid, sig), 2);
            }
        }
        theNewInstance();
    }

    private static void theNewInstance() {
        SignalKernel x = Checks.spinning(1, 1);
        for (int i = 1; i <= 3; i++) {
            x.send(0, 13);
            checks.due("instance " + i, x.pendingSerial(0, 13), i);
            x.run(1);
            checks.due("instance " + i + ", delivered", x.pendingSerial(0, 13), 0);
        }
    }

    private static void notPending() {
        checks.sentence("The answer is 0 if `sig` is not pending or an argument is invalid.");
        SignalKernel x = Checks.spinning(1, 1);
        x.send(0, 14);
        x.send(0, 12);
        checks.due("dropped by 12", x.pendingSerial(0, 14), 0);
        x.send(0, 15);
        x.send(0, 14);
        checks.due("dropped by 14", x.pendingSerial(0, 12), 0);
        checks.due("dropped by 14", x.pendingSerial(0, 15), 0);
        checks.due("kept", x.pendingSerial(0, 14), 4);
        x.send(0, 9);
        for (int sig = 0; sig <= 16; sig++) {
            checks.due("of the dead: pendingSerial(0, " + sig + ")", x.pendingSerial(0, sig), 0);
        }
    }

    private static void invalidSignals() {
        for (int pid = 0; pid < 4; pid++) {
            SignalKernel x = Checks.spinning(4, 1);
            for (int of = 0; of < 4; of++) {
                x.send(of, 1);
                x.send(of, 15);
                x.send(of, 16);
                x.send(of, 31);
            }
            int[] outside = {LEAST, -17, -16, -15, -1, 0, 16, 17, 31, 32, 33, GREATEST};
            for (int sig : outside) {
                checks.due("pendingSerial(" + pid + ", " + sig + ")", x.pendingSerial(pid, sig), 0);
            }
            checks.due("the least", x.pendingSerial(pid, 1), 4 * pid + 1);
            checks.due("the greatest", x.pendingSerial(pid, 15), 4 * pid + 2);
        }
    }

    private static void invalidPids() {
        for (int procs = 1; procs <= 4; procs++) {
            SignalKernel x = Checks.spinning(procs, 1);
            for (int of = 0; of < procs; of++) {
                x.send(of, 1);
                x.send(of, 15);
            }
            int[] outside = {LEAST, -2, -1, procs, procs + 1, 4, 5, GREATEST};
            for (int pid : outside) {
                for (int sig = 0; sig <= 16; sig++) {
                    checks.due("P " + procs + ": pendingSerial(" + pid + ", " + sig + ")", x.pendingSerial(pid, sig), 0);
                }
            }
            checks.due("P " + procs + ": pendingSerial(P-1, 15)", x.pendingSerial(procs - 1, 15), 2 * procs);
        }
    }

    private static void changesNothing() {
        checks.sentence("It changes nothing.");
        for (int pid = -1; pid <= 4; pid++) {
            for (int sig = 0; sig <= 16; sig++) {
                int of = pid;
                int read = sig;
                int due = Scenes.busy(false).pendingSerial(pid, sig);
                checks.refused("pendingSerial(" + pid + ", " + sig + ")", () -> Scenes.busy(false), x -> x.pendingSerial(of, read), due);
            }
        }
    }
}
