/** Promise 3: setAction. */
public final class Promise03Test {
    private static final Checks checks = new Checks("Promise03Test");

    public static void main(String[] args) {
        everySignalAndHandler();
        flags();
        deadAndMissing();
        livingStates();
        nothingElse();
        checks.finish();
    }

    private static void everySignalAndHandler() {
        int[] signals = {Integer.MIN_VALUE, -1, 0, 32, 33, Integer.MAX_VALUE};
        for (int sig : signals) {
            handlersOf(sig);
        }
        for (int sig = 1; sig <= 31; sig++) {
            handlersOf(sig);
        }
    }

    private static void handlersOf(int sig) {
        SignalKernel x = new SignalKernel(2, 1);
        boolean good = sig >= 1 && sig <= 31 && sig != 9 && sig != 15;
        int old = SignalKernel.H_DFL;
        for (int handler = -4; handler <= 34; handler++) {
            boolean taken = good && handler >= -2 && handler <= 31;
            String call = "setAction(1, " + sig + ", " + handler + ", 5)";
            long[] before = Checks.view(x);
            checks.due(call, x.setAction(1, sig, handler, 5), taken ? old : SignalKernel.EINVAL);
            if (taken) {
                old = handler;
                checks.due(call + " then getAction", x.getAction(1, sig, 0), handler);
            } else {
                checks.unchanged(call, x, before);
            }
        }
        checks.due("setAction of the least int", x.setAction(1, sig, Integer.MIN_VALUE, 0), SignalKernel.EINVAL);
        checks.due("setAction of the greatest int", x.setAction(1, sig, Integer.MAX_VALUE, 0), SignalKernel.EINVAL);
    }

    private static void flags() {
        SignalKernel x = new SignalKernel(1, 1);
        int[] asked = {0, 1, 2, 3, 4, 5, 6, 7, 8, 15, -1, -8, 0x7ffffffa, Integer.MIN_VALUE};
        int[] kept = {0, 1, 2, 3, 4, 5, 6, 7, 0, 7, 7, 0, 2, 0};
        for (int i = 0; i < asked.length; i++) {
            x.setAction(0, 16, SignalKernel.H_IGN, asked[i]);
            checks.due("flags " + asked[i], x.getAction(0, 16, 1), kept[i]);
        }
        x.setAction(0, 16, SignalKernel.H_DFL, 7);
        checks.due("flags are kept with H_DFL too", x.getAction(0, 16, 1), 7);
    }

    private static void deadAndMissing() {
        SignalKernel x = new SignalKernel(2, 1);
        x.send(1, 9);
        x.run(1);
        long[] before = Checks.view(x);
        int[] pids = {Integer.MIN_VALUE, -1, 0, 1, 2, 3, 4, Integer.MAX_VALUE};
        for (int pid : pids) {
            checks.due("setAction(" + pid + ", 1, 0, 0)", x.setAction(pid, 1, 0, 0), SignalKernel.ESRCH);
            checks.due("setAction(" + pid + ", 9, 99, 0)", x.setAction(pid, 9, 99, 0), SignalKernel.ESRCH);
            checks.due("setAction(" + pid + ", 0, 0, 0)", x.setAction(pid, 0, 0, 0), SignalKernel.ESRCH);
        }
        checks.unchanged("setAction on the dead", x, before);
    }

    private static void livingStates() {
        SignalKernel x = Checks.spinning(2, 1);
        Checks.load(x, 0, 0, SignalKernel.OP_SLEEP, 9);
        x.send(1, 15);
        x.run(1);
        checks.due("asleep", x.state(0), SignalKernel.SLEEPING);
        checks.due("setAction on a sleeper", x.setAction(0, 3, 4, 0), SignalKernel.H_DFL);
        checks.due("stopped", x.state(1), SignalKernel.STOPPED);
        checks.due("setAction on a stopped one", x.setAction(1, 3, 4, 0), SignalKernel.H_DFL);
        checks.due("and again", x.setAction(1, 3, SignalKernel.H_IGN, 0), 4);
        checks.due("and again", x.setAction(1, 3, SignalKernel.H_DFL, 0), SignalKernel.H_IGN);
    }

    private static void nothingElse() {
        SignalKernel x = Checks.spinning(2, 1);
        x.send(0, 3);
        x.send(0, 18);
        long[] before = Checks.view(x);
        checks.due("setAction(0, 3, -2, 1)", x.setAction(0, 3, SignalKernel.H_IGN, 1), SignalKernel.H_DFL);
        checks.due("setAction(0, 3, -1, 0)", x.setAction(0, 3, SignalKernel.H_DFL, 0), SignalKernel.H_IGN);
        checks.due("setAction(0, 18, 6, 7)", x.setAction(0, 18, 6, 7), SignalKernel.H_DFL);
        checks.due("setAction(0, 18, -1, 0)", x.setAction(0, 18, SignalKernel.H_DFL, 0), 6);
        checks.unchanged("setAction there and back", x, before);
        checks.due("no serial was issued", x.send(1, 1), 3);
        x.setAction(0, 20, 8, 3);
        for (int sig = 1; sig <= 31; sig++) {
            checks.due("the other process's disposition " + sig, x.getAction(1, sig, 0), SignalKernel.H_DFL);
            checks.due("disposition " + sig, x.getAction(0, sig, 0), sig == 20 ? 8 : SignalKernel.H_DFL);
            checks.due("flags of " + sig, x.getAction(0, sig, 1), sig == 20 ? 3 : 0);
        }
    }
}
