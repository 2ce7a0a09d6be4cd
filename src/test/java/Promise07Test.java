/** Promise 7: reg. */
public final class Promise07Test {
    private static final Checks checks = new Checks("Promise07Test");

    public static void main(String[] args) {
        SignalKernel x = busy();
        everyRegister(x);
        wrongArguments(x);
        afterDeath(x);
        checks.finish();
    }

    /** Process 1 sleeps in a handler, with signals that it blocks pending and queued. */
    private static SignalKernel busy() {
        SignalKernel x = new SignalKernel(2, 3);
        Checks.load(x, 0, 0, SignalKernel.OP_JMP, 0);
        Checks.load(x, 1, 0, SignalKernel.OP_JMP, 0);
        Checks.load(x, 1, 7, SignalKernel.OP_LDA, -1, SignalKernel.OP_MASK, 2, SignalKernel.OP_LDA, 33, SignalKernel.OP_SLEEP, 12);
        x.setAction(1, 30, 7, 0);
        x.send(0, 13);
        x.send(1, 30);
        x.run(6);
        x.send(1, 2);
        x.send(1, 14);
        x.send(1, 31);
        x.send(1, 17);
        x.send(1, 31);
        return x;
    }

    private static final int PENDING = 1 << 2 | 1 << 14 | 1 << 31 | 1 << 17;
    private static final int MASK = ~(1 | 1 << 9 | 1 << 15);

    private static void everyRegister(SignalKernel x) {
        long[] before = Checks.view(x);
        int[] due = {10, 33, 2, 60, MASK, 1, 11, 0, PENDING, 3};
        for (int which = 0; which < 10; which++) {
            checks.due("reg(1, " + which + ")", x.reg(1, which), due[which]);
        }
        int[] other = {0, 0, 0, 64, 0, 0, 0, 0, 0, 0};
        for (int which = 0; which < 10; which++) {
            checks.due("reg(0, " + which + ")", x.reg(0, which), other[which]);
        }
        checks.unchanged("reg", x, before);
    }

    private static void wrongArguments(SignalKernel x) {
        int[] badPids = {Integer.MIN_VALUE, -1, 2, 3, 4, Integer.MAX_VALUE};
        for (int pid : badPids) {
            for (int which = -1; which <= 10; which++) {
                checks.due("reg(" + pid + ", " + which + ")", x.reg(pid, which), 0);
            }
        }
        int[] badRegisters = {Integer.MIN_VALUE, -1, 10, 11, Integer.MAX_VALUE};
        for (int which : badRegisters) {
            checks.due("reg(1, " + which + ")", x.reg(1, which), 0);
        }
    }

    private static void afterDeath(SignalKernel x) {
        x.send(1, 9);
        int[] due = {10, 33, 2, 60, MASK, 1, 0, 9, 0, 0};
        for (int which = 0; which < 10; which++) {
            checks.due("dead: reg(1, " + which + ")", x.reg(1, which), due[which]);
        }
    }
}
