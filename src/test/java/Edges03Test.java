/** The edges that promise 3 names, a test for each sentence. */
public final class Edges03Test implements Numbers {
    private static final Checks checks = new Checks("Edges03Test");

    public static void main(String[] args) {
        order();
        pids();
        theDead();
        signals();
        fixedSignals();
        handlers();
        sameAsSigact();
        refusedCallsChangeNothing();
        takenCalls();
        nothingElseChanges();
        checks.finish();
    }

    private static void order() {
        checks.sentence("The conditions are considered in this order:");
        SignalKernel x = Scenes.busy(false);
        int[] pids = {-1, 3, 4};
        for (int pid : pids) {
            checks.due("no such process and no such signal", x.setAction(pid, 0, 0, 0), ESRCH);
            checks.due("no such process and a fixed signal", x.setAction(pid, 15, 0, 0), ESRCH);
            checks.due("no such process and no such handler", x.setAction(pid, 1, 32, 0), ESRCH);
        }
        checks.due("a process, but no such signal and no such handler", x.setAction(0, 32, -3, 0), EINVAL);
    }

    private static void pids() {
        checks.sentence("If `pid` is not in 0..P-1, or is EXITED or KILLED, the answer is ESRCH.");
        for (int procs = 1; procs <= 4; procs++) {
            int count = procs;
            int[] outside = {LEAST, -1, procs, procs + 1, 4, 5, GREATEST};
            for (int pid : outside) {
                checks.refused("P " + procs + ": setAction(" + pid + ", 2, 3, 4)", () -> Scenes.numbered(count, 1), x -> x.setAction(pid, 2, 3, 4), ESRCH);
            }
            checks.due("P " + procs + ": setAction(0, ..)", new SignalKernel(procs, 1).setAction(0, 2, 3, 4), H_DFL);
            checks.due("P " + procs + ": setAction(P-1, ..)", new SignalKernel(procs, 1).setAction(procs - 1, 2, 3, 4), H_DFL);
        }
    }

    private static void theDead() {
        for (int sig = 1; sig <= 31; sig++) {
            int of = sig;
            checks.refused("setAction of the exited, " + sig, () -> Scenes.busy(true), x -> x.setAction(3, of, 3, 4), ESRCH);
            checks.refused("setAction of the killed, " + sig, () -> Scenes.busy(false), x -> x.setAction(3, of, H_IGN, 4), ESRCH);
        }
        int[] states = {RUNNING, SLEEPING, STOPPED};
        for (int pid = 0; pid < 3; pid++) {
            SignalKernel x = Scenes.busy(false);
            checks.due("state(" + pid + ")", x.state(pid), states[pid]);
            checks.due("setAction of the living", x.setAction(pid, 2, 3, 4), H_DFL);
        }
    }

    private static void signals() {
        checks.sentence("`sig` is not in 1..31;");
        int[] outside = {LEAST, -32, -1, 0, 32, 33, 64, GREATEST};
        for (int pid = 0; pid < 3; pid++) {
            int of = pid;
            for (int sig : outside) {
                checks.refused("setAction(" + pid + ", " + sig + ", 3, 4)", () -> Scenes.busy(false), x -> x.setAction(of, sig, 3, 4), EINVAL);
            }
        }
        int[] inside = {1, 2, 30, 31};
        for (int sig : inside) {
            SignalKernel x = new SignalKernel(4, 1);
            checks.due("setAction(3, " + sig + ", 3, 4)", x.setAction(3, sig, 3, 4), H_DFL);
            checks.due("getAction(3, " + sig + ", 0)", x.getAction(3, sig, 0), 3);
        }
    }

    private static void fixedSignals() {
        checks.sentence("`sig` is 9 or 15;");
        int[] handlers = {H_DFL, H_IGN, 0, 31};
        for (int handler : handlers) {
            for (int sig = 8; sig <= 16; sig++) {
                int of = sig;
                if (sig == 9 || sig == 15) {
                    checks.refused("setAction(0, " + sig + ", " + handler + ", 7)", () -> Scenes.busy(false), x -> x.setAction(0, of, handler, 7), EINVAL);
                } else {
                    checks.due("setAction(0, " + sig + ", " + handler + ", 7)", Scenes.busy(false).setAction(0, sig, handler, 7), H_DFL);
                }
            }
        }
    }

    private static void handlers() {
        checks.sentence("`handler` is neither H_DFL, H_IGN nor in 0..31.");
        int[] outside = {LEAST, -4, -3, 32, 33, GREATEST};
        int[] signals = {1, 31};
        for (int sig : signals) {
            for (int handler : outside) {
                checks.refused("setAction(0, " + sig + ", " + handler + ", 1)", () -> Scenes.busy(false), x -> x.setAction(0, sig, handler, 1), EINVAL);
            }
            for (int handler = -2; handler <= 31; handler++) {
                SignalKernel x = Scenes.busy(false);
                checks.due("setAction(0, " + sig + ", " + handler + ", 1)", x.setAction(0, sig, handler, 1), H_DFL);
                checks.due("getAction(0, " + sig + ", 0)", x.getAction(0, sig, 0), handler);
            }
        }
    }

    private static void sameAsSigact() {
        checks.sentence("These are the same conditions as OP_SIGACT, with `sig` as k and `handler` as A.");
        for (int sig = -2; sig <= 34; sig++) {
            for (int handler = -4; handler <= 34; handler++) {
                SignalKernel outside = new SignalKernel(1, 1);
                SignalKernel inside = Scenes.after(3, LDA, handler, LDB, 6, SIGACT, sig);
                String call = "setAction(0, " + sig + ", " + handler + ", 6)";
                checks.due(call + " and SIGACT", outside.setAction(0, sig, handler, 6), inside.reg(0, R_A));
                for (int i = 2; i < 64; i++) {
                    checks.due(call + ": disposition " + i / 2, outside.getAction(0, i / 2, i % 2), inside.getAction(0, i / 2, i % 2));
                }
            }
        }
    }

    private static void refusedCallsChangeNothing() {
        checks.sentence("A refused call changes nothing.");
        // The disposition that a refused call names is neither replaced nor stripped of its flags.
        checks.refused("setAction(0, 17, 32, 0)", () -> Scenes.busy(false), x -> x.setAction(0, 17, 32, 0), EINVAL);
        checks.refused("setAction(0, 17, -3, 7)", () -> Scenes.busy(false), x -> x.setAction(0, 17, -3, 7), EINVAL);
        checks.refused("setAction(1, 6, 99, 7)", () -> Scenes.busy(false), x -> x.setAction(1, 6, 99, 7), EINVAL);
        checks.refused("setAction(3, 5, 0, 7)", () -> Scenes.busy(true), x -> x.setAction(3, 5, 0, 7), ESRCH);
        checks.refused("setAction(4, 5, 0, 7)", () -> Scenes.busy(true), x -> x.setAction(4, 5, 0, 7), ESRCH);
        checks.refused("setAction(-1, 31, 0, 7)", () -> Scenes.busy(true), x -> x.setAction(-1, 31, 0, 7), ESRCH);
        checks.refused("setAction(0, 32, 0, 7)", () -> Scenes.busy(true), x -> x.setAction(0, 32, 0, 7), EINVAL);
        checks.refused("setAction(1, 0, 0, 7)", () -> Scenes.busy(true), x -> x.setAction(1, 0, 0, 7), EINVAL);
        SignalKernel x = Scenes.busy(false);
        x.setAction(0, 17, 32, 0);
        checks.due("getAction(0, 17, 0)", x.getAction(0, 17, 0), 24);
        checks.due("getAction(0, 17, 1)", x.getAction(0, 17, 1), RESTART);
    }

    private static void takenCalls() {
        checks.sentence("On success, disposition `sig` becomes (`handler`, `flags & 7`), and the answer is the old handler.");
        int[] flags = {0, 1, 2, 4, 7, 8, 9, 15, 16, -1, -8, -2, LEAST, GREATEST};
        int[] handlers = {0, 31, H_IGN, H_DFL, 1, 30};
        for (int sig = 1; sig <= 31; sig++) {
            if (sig == 9 || sig == 15) {
                continue;
            }
            SignalKernel x = new SignalKernel(4, 1);
            int old = H_DFL;
            for (int i = 0; i < flags.length; i++) {
                int handler = handlers[i % handlers.length];
                checks.due("setAction(3, " + sig + ", " + handler + ", " + flags[i] + ")", x.setAction(3, sig, handler, flags[i]), old);
                checks.due("getAction(3, " + sig + ", 0)", x.getAction(3, sig, 0), handler);
                checks.due("getAction(3, " + sig + ", 1)", x.getAction(3, sig, 1), flags[i] & 7);
                old = handler;
            }
        }
    }

    private static void nothingElseChanges() {
        checks.sentence("Nothing else changes: no serial is issued and nothing is logged.");
        int[] handlers = {H_IGN, H_DFL, 30};
        for (int handler : handlers) {
            for (int pid = 0; pid < 3; pid++) {
                for (int sig = 1; sig <= 31; sig++) {
                    if (sig != 9 && sig != 15) {
                        thereAndBack(pid, sig, handler);
                    }
                }
            }
        }
    }

    private static void thereAndBack(int pid, int sig, int handler) {
        SignalKernel x = Scenes.busy(false);
        int flags = x.getAction(pid, sig, 1);
        int old = x.setAction(pid, sig, handler, 7);
        checks.due("the disposition in between", x.getAction(pid, sig, 0), handler);
        checks.due("setAction back", x.setAction(pid, sig, old, flags), handler);
        checks.alike("setAction(" + pid + ", " + sig + ", " + handler + ", 7) and back", x, Scenes.busy(false));
    }
}
