/** The edges that promise 9 names, a test for each sentence. */
public final class Edges09Test implements Numbers {
    private static final Checks checks = new Checks("Edges09Test");

    public static void main(String[] args) {
        indexes();
        fields();
        invalid();
        changesNothing();
        checks.finish();
    }

    /** The last of so many processes has this many entries, 31 first and each later one lower; it ignores them. */
    private static SignalKernel queueing(int procs, int entries) {
        SignalKernel x = Checks.spinning(procs, 1);
        x.send(procs - 1, 13);
        for (int i = 0; i < entries; i++) {
            x.setAction(procs - 1, 31 - i, H_IGN, 0);
            x.send(procs - 1, 31 - i);
        }
        return x;
    }

    private static void indexes() {
        checks.sentence("Index 0 is the earliest, and indexes go up to R_QUEUED-1.");
        for (int entries = 0; entries <= 8; entries++) {
            for (int taken = 0; taken <= entries; taken++) {
                SignalKernel x = queueing(1, entries);
                x.run(1 + taken);
                checks.due("R_QUEUED", x.reg(0, R_QUEUED), entries - taken);
                for (int index = 0; index <= 9; index++) {
                    boolean there = index < entries - taken;
                    String what = taken + " of " + entries + " taken: queued(0, " + index + ", ";
                    checks.due(what + "0)", x.queued(0, index, 0), there ? 31 - taken - index : 0);
                    checks.due(what + "1)", x.queued(0, index, 1), there ? 2 + taken + index : 0);
                }
                checks.due("queued(0, -1, 0)", x.queued(0, -1, 0), 0);
            }
        }
    }

    private static void fields() {
        checks.sentence("Field 0 is the signal and field 1 is its serial.");
        for (int procs = 1; procs <= 4; procs++) {
            for (int sig = 16; sig <= 31; sig++) {
                SignalKernel x = Checks.spinning(procs, 1);
                x.send(0, 13);
                int serial = x.send(procs - 1, sig);
                checks.due("queued(" + (procs - 1) + ", 0, 0)", x.queued(procs - 1, 0, 0), sig);
                checks.due("queued(" + (procs - 1) + ", 0, 1)", x.queued(procs - 1, 0, 1), serial);
                checks.due("the serial", serial, 2);
            }
        }
    }

    private static void invalid() {
        checks.sentence("Any invalid argument gives 0.");
        int[] badIndexes = {LEAST, -8, -1, 8, 9, 16, GREATEST};
        int[] badFields = {LEAST, -2, -1, 2, 3, GREATEST};
        for (int procs = 1; procs <= 4; procs++) {
            SignalKernel x = queueing(procs, 8);
            int[] badPids = {LEAST, -2, -1, procs, procs + 1, 4, 5, GREATEST};
            for (int pid : badPids) {
                for (int i = 0; i < 16; i++) {
                    checks.due("P " + procs + ": queued(" + pid + ", " + i / 2 + ", " + i % 2 + ")", x.queued(pid, i / 2, i % 2), 0);
                }
            }
            for (int index : badIndexes) {
                checks.due("P " + procs + ": queued(P-1, " + index + ", 0)", x.queued(procs - 1, index, 0), 0);
                checks.due("P " + procs + ": queued(P-1, " + index + ", 1)", x.queued(procs - 1, index, 1), 0);
            }
            for (int field : badFields) {
                for (int index = 0; index < 8; index++) {
                    checks.due("P " + procs + ": queued(P-1, " + index + ", " + field + ")", x.queued(procs - 1, index, field), 0);
                }
            }
            checks.due("P " + procs + ": the last one that is valid", x.queued(procs - 1, 7, 1), 9);
        }
        emptyQueueOfTheDead();
    }

    private static void emptyQueueOfTheDead() {
        SignalKernel x = queueing(2, 8);
        x.send(1, 9);
        for (int i = 0; i < 16; i++) {
            checks.due("of the dead: queued(1, " + i / 2 + ", " + i % 2 + ")", x.queued(1, i / 2, i % 2), 0);
        }
    }

    private static void changesNothing() {
        checks.sentence("It changes nothing.");
        for (int pid = -1; pid <= 4; pid++) {
            for (int index = -1; index <= 8; index += 3) {
                for (int field = -1; field <= 2; field++) {
                    int of = pid;
                    int at = index;
                    int read = field;
                    int due = Scenes.busy(false).queued(pid, index, field);
                    checks.refused("queued(" + pid + ", " + index + ", " + field + ")", () -> Scenes.busy(false), x -> x.queued(of, at, read), due);
                }
            }
        }
    }
}
