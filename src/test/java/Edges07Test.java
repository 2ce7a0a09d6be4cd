/** The edges that promise 7 names, a test for each sentence. */
public final class Edges07Test implements Numbers {
    private static final Checks checks = new Checks("Edges07Test");

    public static void main(String[] args) {
        pendingBits();
        queueLength();
        outside();
        afterDeath();
        changesNothing();
        checks.finish();
    }

    private static void pendingBits() {
        checks.sentence("R_PENDING is the standard pending bits OR the bit of every signal that has an entry in the queue.");
        for (int pid = 0; pid < 4; pid++) {
            pendingPairs(pid);
        }
        sameSignalTwice();
    }

    private static void pendingPairs(int pid) {
        checks.due("none", Checks.spinning(4, 1).reg(pid, R_PENDING), 0);
        for (int first = 1; first <= 31; first++) {
            for (int second = first; second <= 31; second++) {
                if (first == 9 || second == 9 || first == 12 && second == 14 || first == 14 && second == 15) {
                    continue;
                }
                SignalKernel x = Checks.spinning(4, 1);
                x.send(pid, first);
                x.send(pid, second);
                for (int of = 0; of < 4; of++) {
                    checks.due("R_PENDING of " + of + " with " + first + " and " + second + " at " + pid, x.reg(of, R_PENDING),
                        of == pid ? 1 << first | 1 << second : 0);
                }
            }
        }
    }

    private static void sameSignalTwice() {
        SignalKernel x = Checks.spinning(1, 1);
        x.setAction(0, 31, H_IGN, 0);
        x.send(0, 31);
        x.send(0, 31);
        checks.due("two entries", x.reg(0, R_PENDING), 1 << 31);
        x.run(1);
        checks.due("one entry left", x.reg(0, R_PENDING), 1 << 31);
        x.run(1);
        checks.due("none left", x.reg(0, R_PENDING), 0);
    }

    private static void queueLength() {
        checks.sentence("R_QUEUED is the number of queue entries.");
        SignalKernel x = Checks.spinning(1, 1);
        x.setAction(0, 20, H_IGN, 0);
        x.setAction(0, 1, H_IGN, 0);
        for (int i = 0; i <= 9; i++) {
            checks.due("after " + i + " sends", x.reg(0, R_QUEUED), Math.min(i, 8));
            x.send(0, 20);
        }
        x.send(0, 1);
        checks.due("a standard signal is not queued", x.reg(0, R_QUEUED), 8);
        x.run(1);
        for (int i = 8; i >= 0; i--) {
            checks.due("with " + i + " left", x.reg(0, R_QUEUED), i);
            x.run(1);
        }
        checks.due("never below none", x.reg(0, R_QUEUED), 0);
    }

    private static void outside() {
        checks.sentence("If `pid` is not in 0..P-1, or `which` is not in 0..9, the answer is 0.");
        for (int procs = 1; procs <= 4; procs++) {
            SignalKernel x = new SignalKernel(procs, 1);
            int[] pids = {LEAST, -2, -1, procs, procs + 1, 4, 5, GREATEST};
            for (int pid : pids) {
                for (int which = -1; which <= 10; which++) {
                    checks.due("P " + procs + ": reg(" + pid + ", " + which + ")", x.reg(pid, which), 0);
                }
            }
            checks.due("P " + procs + ": reg(0, R_SP)", x.reg(0, R_SP), 64);
            checks.due("P " + procs + ": reg(P-1, R_SP)", x.reg(procs - 1, R_SP), 64);
        }
        SignalKernel x = Scenes.busy(false);
        int[] registers = {LEAST, -10, -2, -1, 10, 11, 16, GREATEST};
        for (int which : registers) {
            for (int pid = 0; pid < 4; pid++) {
                checks.due("reg(" + pid + ", " + which + ")", x.reg(pid, which), 0);
            }
        }
        x = Scenes.after(1, JMP, 8);
        checks.due("the least register", x.reg(0, R_PC), 8);
        x.send(0, 16);
        checks.due("the greatest register", x.reg(0, R_QUEUED), 1);
    }

    private static void afterDeath() {
        checks.sentence("Values stay readable after the process has died.");
        for (int pid = 0; pid < 3; pid++) {
            SignalKernel x = Scenes.busy(false);
            SignalKernel y = Scenes.busy(false);
            x.send(pid, 9);
            for (int which = 0; which <= 9; which++) {
                int due = which <= R_DEPTH ? y.reg(pid, which) : which == R_STATUS ? 9 : 0;
                checks.due("reg(" + pid + ", " + which + ") of the killed", x.reg(pid, which), due);
            }
        }
        SignalKernel x = Scenes.after(4, LDA, 4, MASK, 2, LDA, 6, HALT, 0);
        int[] due = {3, 6, 0, 64, 4, 0, 0, 6, 0, 0};
        for (int which = 0; which <= 9; which++) {
            checks.due("reg(0, " + which + ") of the exited", x.reg(0, which), due[which]);
        }
        checks.due("reg(0, 10) of the exited", x.reg(0, 10), 0);
    }

    private static void changesNothing() {
        checks.sentence("It changes nothing.");
        for (int which = -1; which <= 10; which++) {
            for (int pid = -1; pid <= 4; pid++) {
                int of = pid;
                int read = which;
                int due = Scenes.busy(false).reg(pid, which);
                checks.refused("reg(" + pid + ", " + which + ")", () -> Scenes.busy(false), x -> x.reg(of, read), due);
            }
        }
    }
}
