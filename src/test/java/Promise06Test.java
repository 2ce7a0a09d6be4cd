/** Promise 6: state. */
public final class Promise06Test {
    private static final Checks checks = new Checks("Promise06Test");

    public static void main(String[] args) {
        pids();
        states();
        stoppedComesBeforeSleeping();
        checks.finish();
    }

    private static void pids() {
        int[] bad = {Integer.MIN_VALUE, -1, 3, 4, Integer.MAX_VALUE};
        SignalKernel x = new SignalKernel(3, 1);
        for (int pid : bad) {
            checks.due("state(" + pid + ")", x.state(pid), -1);
        }
        for (int pid = 0; pid < 3; pid++) {
            checks.due("state(" + pid + ")", x.state(pid), SignalKernel.RUNNING);
        }
    }

    private static void states() {
        SignalKernel x = Checks.spinning(4, 1);
        Checks.load(x, 0, 0, SignalKernel.OP_HALT, 0);
        Checks.load(x, 1, 0, SignalKernel.OP_SLEEP, 1, SignalKernel.OP_JMP, 1);
        x.send(2, 12);
        x.send(3, 6);
        x.run(1);
        long[] before = Checks.view(x);
        checks.due("state(0)", x.state(0), SignalKernel.EXITED);
        checks.due("state(1)", x.state(1), SignalKernel.SLEEPING);
        checks.due("state(2)", x.state(2), SignalKernel.STOPPED);
        checks.due("state(3)", x.state(3), SignalKernel.KILLED);
        checks.unchanged("state", x, before);
        x.run(1);
        checks.due("awake again", x.state(1), SignalKernel.RUNNING);
        x.send(2, 14);
        checks.due("resumed", x.state(2), SignalKernel.RUNNING);
    }

    private static void stoppedComesBeforeSleeping() {
        SignalKernel x = Checks.holding(SignalKernel.OP_SLEEP, 5);
        x.run(1);
        x.send(0, 15);
        checks.due("a pending stop stops nothing yet", x.state(0), SignalKernel.SLEEPING);
        x.run(1);
        checks.due("state(0)", x.state(0), SignalKernel.STOPPED);
        x.send(0, 14);
        checks.due("state(0)", x.state(0), SignalKernel.SLEEPING);
        x.send(0, 15);
        x.run(1);
        x.send(0, 9);
        checks.due("death comes before all", x.state(0), SignalKernel.KILLED);
        checks.due("and stays", x.state(0), SignalKernel.KILLED);
    }
}
