/** Promise 9: queued. */
public final class Promise09Test {
    private static final Checks checks = new Checks("Promise09Test");

    public static void main(String[] args) {
        SignalKernel x = Checks.spinning(2, 1);
        x.setAction(0, 29, SignalKernel.H_IGN, 0);
        x.send(0, 1);
        x.send(0, 29);
        x.send(1, 18);
        x.send(0, 31);
        x.send(0, 16);
        long[] before = Checks.view(x);
        entries(x, new int[] {29, 2, 31, 4, 16, 5});
        checks.due("queued(1, 0, 0)", x.queued(1, 0, 0), 18);
        checks.due("queued(1, 0, 1)", x.queued(1, 0, 1), 3);
        wrongArguments(x);
        checks.unchanged("queued", x, before);
        x.setAction(0, 1, SignalKernel.H_IGN, 0);
        x.run(2);
        entries(x, new int[] {31, 4, 16, 5});
        fullQueue();
        x.send(0, 9);
        entries(x, new int[] {});
        checks.finish();
    }

    /** Checks the whole queue of process 0, given as (signal, serial) pairs. */
    private static void entries(SignalKernel x, int[] due) {
        for (int i = 0; i < 20; i++) {
            checks.due("queued(0, " + i / 2 + ", " + i % 2 + ")", x.queued(0, i / 2, i % 2), i < due.length ? due[i] : 0);
        }
    }

    private static void wrongArguments(SignalKernel x) {
        int[] badPids = {Integer.MIN_VALUE, -1, 2, 3, 4, Integer.MAX_VALUE};
        for (int pid : badPids) {
            checks.due("queued(" + pid + ", 0, 0)", x.queued(pid, 0, 0), 0);
            checks.due("queued(" + pid + ", 0, 1)", x.queued(pid, 0, 1), 0);
        }
        int[] badIndexes = {Integer.MIN_VALUE, -1, 3, 7, 8, 9, Integer.MAX_VALUE};
        for (int index : badIndexes) {
            checks.due("queued(0, " + index + ", 0)", x.queued(0, index, 0), 0);
            checks.due("queued(0, " + index + ", 1)", x.queued(0, index, 1), 0);
        }
        int[] badFields = {Integer.MIN_VALUE, -1, 2, 3, Integer.MAX_VALUE};
        for (int field : badFields) {
            checks.due("queued(0, 0, " + field + ")", x.queued(0, 0, field), 0);
        }
    }

    private static void fullQueue() {
        SignalKernel x = Checks.spinning(1, 1);
        int[] due = new int[16];
        for (int i = 0; i < 8; i++) {
            due[2 * i] = 31 - i;
            due[2 * i + 1] = x.send(0, 31 - i);
        }
        entries(x, due);
    }
}
