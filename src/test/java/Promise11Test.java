/** Promise 11: getAction. */
public final class Promise11Test {
    private static final Checks checks = new Checks("Promise11Test");

    public static void main(String[] args) {
        SignalKernel x = new SignalKernel(2, 1);
        for (int sig = 1; sig <= 31; sig++) {
            x.setAction(0, sig, sig == 4 ? SignalKernel.H_IGN : sig, sig);
        }
        long[] before = Checks.view(x);
        everySignal(x);
        wrongArguments(x);
        checks.unchanged("getAction", x, before);
        x.send(0, 9);
        everySignal(x);
        x.run(1);
        checks.due("state(1)", x.state(1), SignalKernel.EXITED);
        everySignal(x);
        checks.finish();
    }

    private static void everySignal(SignalKernel x) {
        for (int sig = 1; sig <= 31; sig++) {
            boolean fixed = sig == 9 || sig == 15;
            int handler = fixed ? SignalKernel.H_DFL : sig == 4 ? SignalKernel.H_IGN : sig;
            checks.due("getAction(0, " + sig + ", 0)", x.getAction(0, sig, 0), handler);
            checks.due("getAction(0, " + sig + ", 1)", x.getAction(0, sig, 1), fixed ? 0 : sig & 7);
            checks.due("getAction(1, " + sig + ", 0)", x.getAction(1, sig, 0), SignalKernel.H_DFL);
            checks.due("getAction(1, " + sig + ", 1)", x.getAction(1, sig, 1), 0);
        }
    }

    private static void wrongArguments(SignalKernel x) {
        int[] badPids = {Integer.MIN_VALUE, -1, 2, 3, 4, Integer.MAX_VALUE};
        int[] badSignals = {Integer.MIN_VALUE, -1, 0, 32, 33, Integer.MAX_VALUE};
        int[] badFields = {Integer.MIN_VALUE, -1, 2, 3, Integer.MAX_VALUE};
        for (int pid : badPids) {
            checks.due("getAction(" + pid + ", 5, 0)", x.getAction(pid, 5, 0), 0);
            checks.due("getAction(" + pid + ", 5, 1)", x.getAction(pid, 5, 1), 0);
        }
        for (int sig : badSignals) {
            checks.due("getAction(0, " + sig + ", 0)", x.getAction(0, sig, 0), 0);
            checks.due("getAction(1, " + sig + ", 0)", x.getAction(1, sig, 0), 0);
            checks.due("getAction(0, " + sig + ", 1)", x.getAction(0, sig, 1), 0);
        }
        for (int field : badFields) {
            checks.due("getAction(0, 5, " + field + ")", x.getAction(0, 5, field), 0);
        }
    }
}
