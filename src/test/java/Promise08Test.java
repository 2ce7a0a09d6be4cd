/** Promise 8: frame. */
public final class Promise08Test {
    private static final Checks checks = new Checks("Promise08Test");

    public static void main(String[] args) {
        SignalKernel x = new SignalKernel(2, 4);
        Checks.load(x, 0, 0, SignalKernel.OP_LDA, -6, SignalKernel.OP_LDB, 12, SignalKernel.OP_JMP, 2);
        Checks.load(x, 0, 8, SignalKernel.OP_NOP, 0, SignalKernel.OP_JMP, 9, SignalKernel.OP_SIGRET, 0);
        Checks.load(x, 1, 0, SignalKernel.OP_JMP, 0);
        x.setAction(0, 31, 8, 0);
        x.setAction(0, 3, 8, SignalKernel.SA_NODEFER);
        nothingAtDepthZero(x);
        x.run(2);
        x.send(0, 31);
        x.run(3);
        x.send(0, 3);
        x.run(1);
        twoFrames(x);
        wrongArguments(x);
        x.poke(0, 8, SignalKernel.OP_SIGRET, 0);
        x.run(1);
        checks.due("the popped frame", x.frame(0, 1, 0), 0);
        checks.frame(x, 0, 2, -6, 12, 0);
        x.send(0, 9);
        checks.frame(x, 0, 2, -6, 12, 0);
        checks.due("dead: frame(0, 1, 0)", x.frame(0, 1, 0), 0);
        checks.finish();
    }

    private static void nothingAtDepthZero(SignalKernel x) {
        for (int i = 0; i < 16; i++) {
            checks.due("frame(0, " + i / 4 + ", " + i % 4 + ")", x.frame(0, i / 4, i % 4), 0);
        }
    }

    private static void twoFrames(SignalKernel x) {
        long[] before = Checks.view(x);
        checks.frame(x, 0, 2, -6, 12, 0);
        checks.frame(x, 1, 9, 31, 1, 1 << 31);
        checks.unchanged("frame", x, before);
        for (int i = 0; i < 16; i++) {
            checks.due("the other process's frames", x.frame(1, i / 4, i % 4), 0);
        }
    }

    private static void wrongArguments(SignalKernel x) {
        int[] badPids = {Integer.MIN_VALUE, -1, 2, 4, Integer.MAX_VALUE};
        int[] badLevels = {Integer.MIN_VALUE, -1, 2, 3, 4, Integer.MAX_VALUE};
        int[] badFields = {Integer.MIN_VALUE, -1, 4, Integer.MAX_VALUE};
        for (int pid : badPids) {
            checks.due("frame(" + pid + ", 0, 0)", x.frame(pid, 0, 0), 0);
            checks.due("frame(" + pid + ", -1, 4)", x.frame(pid, -1, 4), 0);
        }
        for (int level : badLevels) {
            for (int field = 0; field < 4; field++) {
                checks.due("frame(0, " + level + ", " + field + ")", x.frame(0, level, field), 0);
            }
        }
        for (int field : badFields) {
            checks.due("frame(0, 0, " + field + ")", x.frame(0, 0, field), 0);
            checks.due("frame(0, 1, " + field + ")", x.frame(0, 1, field), 0);
        }
    }
}
