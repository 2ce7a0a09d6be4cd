/** The edges that promise 8 names, a test for each sentence. */
public final class Edges08Test implements Numbers {
    private static final Checks checks = new Checks("Edges08Test");

    public static void main(String[] args) {
        levels();
        fields();
        invalid();
        changesNothing();
        checks.finish();
    }

    /** The last of so many processes is so many handlers deep, with pc, A, B and mask of its own in each frame. */
    private static SignalKernel nested(int procs, int depth) {
        SignalKernel x = Checks.spinning(procs, 4);
        int pid = procs - 1;
        for (int level = 0; level <= 4; level++) {
            Checks.load(x, pid, 4 * level, LDA, 10 + level, LDB, 20 + level, JMP, 4 * level + 2);
        }
        for (int level = 0; level < 4; level++) {
            x.setAction(pid, 28 + level, 4 * level + 4, 0);
        }
        x.run(2);
        for (int level = 0; level < depth; level++) {
            x.send(pid, 28 + level);
            x.run(3);
        }
        return x;
    }

    private static int saved(int level, int field) {
        int[] frame = {4 * level + 2, 10 + level, 20 + level, ((1 << level) - 1) << 28};
        return frame[field];
    }

    private static void levels() {
        checks.sentence("Level 0 is the oldest, and levels go up to depth-1.");
        int[] outside = {LEAST, -4, -1, 4, 5, 16, GREATEST};
        for (int depth = 0; depth <= 4; depth++) {
            SignalKernel x = nested(1, depth);
            checks.due("R_DEPTH", x.reg(0, R_DEPTH), depth);
            for (int level = 0; level <= 4; level++) {
                for (int field = 0; field < 4; field++) {
                    checks.due("depth " + depth + ": frame(0, " + level + ", " + field + ")", x.frame(0, level, field), level < depth ? saved(level, field) : 0);
                }
            }
            for (int level : outside) {
                checks.due("depth " + depth + ": frame(0, " + level + ", 1)", x.frame(0, level, 1), 0);
            }
        }
        poppedFrames();
    }

    private static void poppedFrames() {
        SignalKernel x = nested(1, 4);
        x.poke(0, 18, SIGRET, 0);
        for (int left = 3; left >= 0; left--) {
            x.run(1);
            for (int level = 0; level < 4; level++) {
                checks.due("frame(0, " + level + ", 1) with " + left + " left", x.frame(0, level, 1), level < left ? 10 + level : 0);
            }
            x.poke(0, 4 * left + 2, SIGRET, 0);
        }
    }

    private static void fields() {
        for (int field = 0; field < 4; field++) {
            String[] sentences = {"field 0: the saved pc;", "field 1: the saved A;", "field 2: the saved B;", "field 3: the saved mask."};
            checks.sentence(sentences[field]);
            for (int procs = 1; procs <= 4; procs++) {
                SignalKernel x = nested(procs, 4);
                for (int level = 0; level < 4; level++) {
                    checks.due("frame(" + (procs - 1) + ", " + level + ", " + field + ")", x.frame(procs - 1, level, field), saved(level, field));
                }
            }
        }
    }

    private static void invalid() {
        checks.sentence("Any invalid argument gives 0: a `pid` outside 0..P-1, a `level` outside 0..depth-1, or a `field` outside 0..3.");
        int[] badFields = {LEAST, -2, -1, 4, 5, GREATEST};
        for (int procs = 1; procs <= 4; procs++) {
            SignalKernel x = nested(procs, 2);
            int[] badPids = {LEAST, -2, -1, procs, procs + 1, 4, 5, GREATEST};
            for (int pid : badPids) {
                for (int i = 0; i < 16; i++) {
                    checks.due("P " + procs + ": frame(" + pid + ", " + i / 4 + ", " + i % 4 + ")", x.frame(pid, i / 4, i % 4), 0);
                }
            }
            for (int field : badFields) {
                for (int level = -1; level <= 4; level++) {
                    checks.due("P " + procs + ": frame(P-1, " + level + ", " + field + ")", x.frame(procs - 1, level, field), 0);
                }
            }
            checks.due("P " + procs + ": one that is valid", x.frame(procs - 1, 1, 3), saved(1, 3));
            checks.due("P " + procs + ": level 2 of 2", x.frame(procs - 1, 2, 1), 0);
            checks.due("P " + procs + ": level -1", x.frame(procs - 1, -1, 1), 0);
        }
    }

    private static void changesNothing() {
        checks.sentence("It changes nothing.");
        for (int level = -1; level <= 4; level++) {
            for (int field = -1; field <= 4; field++) {
                int at = level;
                int read = field;
                int due = Scenes.busy(false).frame(0, level, field);
                checks.refused("frame(0, " + level + ", " + field + ")", () -> Scenes.busy(false), x -> x.frame(0, at, read), due);
                checks.refused("frame(4, " + level + ", " + field + ")", () -> Scenes.busy(false), x -> x.frame(4, at, read), 0);
                checks.refused("frame(-1, " + level + ", " + field + ")", () -> Scenes.busy(false), x -> x.frame(-1, at, read), 0);
            }
        }
    }
}
