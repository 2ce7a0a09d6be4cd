/** The edges that promise 11 names, a test for each sentence. */
public final class Edges11Test implements Numbers {
    private static final Checks checks = new Checks("Edges11Test");

    public static void main(String[] args) {
        signals();
        fields();
        invalid();
        afterDeath();
        changesNothing();
        checks.finish();
    }

    /** Every signal of every process that can has a handler and flags of its own. */
    private static SignalKernel caught(int procs) {
        SignalKernel x = Checks.spinning(procs, 1);
        for (int pid = 0; pid < procs; pid++) {
            for (int sig = 1; sig <= 31; sig++) {
                x.setAction(pid, sig, (sig + pid) % 32, (sig + pid) % 7 + 1);
            }
        }
        return x;
    }

    private static int handler(int pid, int sig) {
        return sig == 9 || sig == 15 ? H_DFL : (sig + pid) % 32;
    }

    private static int flags(int pid, int sig) {
        return sig == 9 || sig == 15 ? 0 : (sig + pid) % 7 + 1;
    }

    private static void signals() {
        checks.sentence("`getAction(pid, sig, field)` reads disposition `sig` (1..31) of `pid`.");
        for (int procs = 1; procs <= 4; procs++) {
            SignalKernel x = caught(procs);
            for (int pid = 0; pid < procs; pid++) {
                for (int sig = 0; sig <= 32; sig++) {
                    boolean there = sig >= 1 && sig <= 31;
                    checks.due("getAction(" + pid + ", " + sig + ", 0)", x.getAction(pid, sig, 0), there ? handler(pid, sig) : 0);
                    checks.due("getAction(" + pid + ", " + sig + ", 1)", x.getAction(pid, sig, 1), there ? flags(pid, sig) : 0);
                }
            }
        }
    }

    private static void fields() {
        checks.sentence("Field 0 is the handler and field 1 is the flags.");
        int[] handlers = {H_IGN, H_DFL, 0, 31};
        for (int handler : handlers) {
            for (int flags = 0; flags <= 7; flags++) {
                SignalKernel x = new SignalKernel(1, 1);
                x.setAction(0, 31, handler, flags);
                checks.due("getAction(0, 31, 0)", x.getAction(0, 31, 0), handler);
                checks.due("getAction(0, 31, 1)", x.getAction(0, 31, 1), flags);
            }
        }
    }

    private static void invalid() {
        checks.sentence("Any invalid argument gives 0.");
        int[] badSignals = {LEAST, -32, -1, 0, 32, 33, 64, GREATEST};
        int[] badFields = {LEAST, -2, -1, 2, 3, GREATEST};
        for (int procs = 1; procs <= 4; procs++) {
            SignalKernel x = caught(procs);
            int[] badPids = {LEAST, -2, -1, procs, procs + 1, 4, 5, GREATEST};
            for (int pid : badPids) {
                for (int i = 0; i <= 65; i++) {
                    checks.due("P " + procs + ": getAction(" + pid + ", " + i / 2 + ", " + i % 2 + ")", x.getAction(pid, i / 2, i % 2), 0);
                }
            }
            for (int pid = 0; pid < procs; pid++) {
                for (int sig : badSignals) {
                    checks.due("getAction(" + pid + ", " + sig + ", 0)", x.getAction(pid, sig, 0), 0);
                    checks.due("getAction(" + pid + ", " + sig + ", 1)", x.getAction(pid, sig, 1), 0);
                }
                for (int field : badFields) {
                    checks.due("getAction(" + pid + ", 1, " + field + ")", x.getAction(pid, 1, field), 0);
                    checks.due("getAction(" + pid + ", 31, " + field + ")", x.getAction(pid, 31, field), 0);
                }
            }
        }
    }

    private static void afterDeath() {
        checks.sentence("Dispositions stay readable after the process has died.");
        SignalKernel x = caught(4);
        x.poke(0, 0, HALT, 0);
        x.poke(1, 0, JMP, 32);
        x.run(2);
        x.send(2, 9);
        // Neither has SA_RESETHAND; the second finds no frame left.
        x.send(3, 4);
        x.send(3, 5);
        x.run(2);
        for (int pid = 0; pid < 4; pid++) {
            checks.due("state(" + pid + ")", x.state(pid), pid == 0 ? EXITED : KILLED);
            for (int sig = 1; sig <= 31; sig++) {
                checks.due("of the dead: getAction(" + pid + ", " + sig + ", 0)", x.getAction(pid, sig, 0), handler(pid, sig));
                checks.due("of the dead: getAction(" + pid + ", " + sig + ", 1)", x.getAction(pid, sig, 1), flags(pid, sig));
            }
        }
    }

    private static void changesNothing() {
        checks.sentence("It changes nothing.");
        for (int pid = -1; pid <= 4; pid++) {
            for (int sig = 0; sig <= 32; sig++) {
                for (int field = -1; field <= 2; field++) {
                    int of = pid;
                    int at = sig;
                    int read = field;
                    int due = Scenes.busy(false).getAction(pid, sig, field);
                    checks.refused("getAction(" + pid + ", " + sig + ", " + field + ")", () -> Scenes.busy(false), x -> x.getAction(of, at, read), due);
                }
            }
        }
    }
}
