/** The edges that promise 6 names, a test for each sentence. */
public final class Edges06Test implements Numbers {
    private static final Checks checks = new Checks("Edges06Test");

    public static void main(String[] args) {
        pids();
        died();
        stopped();
        sleeping();
        running();
        changesNothing();
        checks.finish();
    }

    private static void pids() {
        checks.sentence("`state(pid)` answers -1 if `pid` is not in 0..P-1.");
        for (int procs = 1; procs <= 4; procs++) {
            SignalKernel x = new SignalKernel(procs, 1);
            int[] outside = {LEAST, -2, -1, procs, procs + 1, 4, 5, GREATEST};
            for (int pid : outside) {
                checks.due("P " + procs + ": state(" + pid + ")", x.state(pid), -1);
            }
            checks.due("P " + procs + ": state(0)", x.state(0), RUNNING);
            checks.due("P " + procs + ": state(P-1)", x.state(procs - 1), RUNNING);
        }
    }

    private static void died() {
        checks.sentence("EXITED or KILLED, if `pid` has died;");
        SignalKernel x = Scenes.after(1, SLEEP, 9);
        x.send(0, 15);
        x.run(1);
        x.send(0, 9);
        checks.due("killed while asleep and stopped", x.state(0), KILLED);
        x = Scenes.after(1, HALT, 0);
        checks.due("exited", x.state(0), EXITED);
        x.send(0, 9);
        x.send(0, 15);
        x.run(3);
        checks.due("the exited can't be killed", x.state(0), EXITED);
        x = Scenes.after(2, LDA, 11, HALT, 0);
        checks.due("exited with a status like a signal", x.state(0), EXITED);
    }

    private static void stopped() {
        checks.sentence("otherwise STOPPED, if the stopped flag is set;");
        SignalKernel x = Scenes.after(1, SLEEP, 1);
        x.send(0, 15);
        checks.due("a stop that is only pending", x.state(0), SLEEPING);
        x.run(1);
        checks.due("stopped while asleep", x.state(0), STOPPED);
        checks.due("R_SLEEP", x.reg(0, R_SLEEP), 1);
        x.send(0, 14);
        checks.due("resumed", x.state(0), SLEEPING);
        checks.due("stopped while awake", Scenes.stopped(12).state(0), STOPPED);
    }

    private static void sleeping() {
        checks.sentence("otherwise SLEEPING, if sleep-left > 0;");
        for (int k = -1; k <= 3; k++) {
            SignalKernel x = Scenes.after(1, SLEEP, k, JMP, 1);
            for (int left = k; left >= 1; left--) {
                checks.due("SLEEP " + k + ": state(0) with " + left + " left", x.state(0), SLEEPING);
                x.run(1);
            }
            checks.due("SLEEP " + k + ": state(0) with none left", x.state(0), RUNNING);
        }
    }

    private static void running() {
        checks.sentence("otherwise RUNNING.");
        checks.due("a new one", new SignalKernel(1, 1).state(0), RUNNING);
        checks.due("one in a handler", Scenes.deep(4, 4).state(0), RUNNING);
        checks.due("one whose PC is bad, before its next step", Scenes.after(1, JMP, -1).state(0), RUNNING);
        SignalKernel x = Checks.spinning(1, 1);
        x.send(0, 1);
        checks.due("one whose death is pending", x.state(0), RUNNING);
    }

    private static void changesNothing() {
        checks.sentence("It changes nothing.");
        for (int pid = -1; pid <= 4; pid++) {
            int of = pid;
            int[] states = {-1, RUNNING, SLEEPING, STOPPED, EXITED, -1};
            checks.refused("state(" + pid + ")", () -> Scenes.busy(true), x -> x.state(of), states[pid + 1]);
        }
    }
}
