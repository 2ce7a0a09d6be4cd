import java.util.Arrays;

/** Long mixed runs, the same ones every time, against the model after every call. */
public final class RandomRunsTest {
    private static final int RUNS = 3000;
    private static final int CALLS = 120;
    private static final int[] ODD_VALUES = {Integer.MIN_VALUE, -22, -3, -2, -1, 32, 33, 1 << 9, 1 << 15, Integer.MAX_VALUE};
    // Which instructions the drawn programs are made of: HALT seldom, so that they live.
    private static final int[] OPS = {1, 1, 2, 2, 3, 4, 5, 6, 6, 6, 6, 6, 7, 7, 8, 8, 9, 9, 10, 10, 10, 11, 12, 13, 14, 15};

    private static final Checks checks = new Checks("RandomRunsTest");
    private static long seed;

    public static void main(String[] args) {
        for (int run = 0; run < RUNS; run++) {
            seed = run;
            oneRun(run);
        }
        checks.finish();
    }

    /** Draws from 0..bound-1; a fixed congruence, so that every run can be had again. */
    private static int draw(int bound) {
        seed = seed * 6364136223846793005L + 1442695040888963407L;
        return (int) ((seed >>> 33) % bound);
    }

    private static void oneRun(int run) {
        int procs = draw(7) - 1;
        int maxDepth = draw(7) - 1;
        SignalKernel x = new SignalKernel(procs, maxDepth);
        Model m = new Model(procs, maxDepth);
        for (int pid = 0; pid < 4; pid++) {
            for (int addr = 0; addr < 32; addr++) {
                int op = drawOp();
                int arg = drawArg(op);
                checks.due("run " + run + ": poke", x.poke(pid, addr, op, arg), m.poke(pid, addr, op, arg));
            }
        }
        for (int i = 0; i < CALLS; i++) {
            String call = oneCall(x, m);
            if (!Arrays.equals(Checks.view(x), m.view())) {
                checks.due("run " + run + ", call " + i + ": the state after " + call + " is the model's", 0, 1);
                return;
            }
        }
    }

    private static int drawOp() {
        return draw(150) == 0 ? 0 : OPS[draw(OPS.length)];
    }

    private static int drawSignal() {
        int kind = draw(60);
        return kind == 0 ? draw(36) - 2 : kind < 25 ? 11 + draw(5) : kind < 45 ? 16 + draw(16) : 1 + draw(8);
    }

    private static int drawArg(int op) {
        if (draw(40) == 0) {
            return ODD_VALUES[draw(ODD_VALUES.length)];
        }
        switch (op) {
            case 1:
                return draw(3) == 0 ? 1 << draw(32) | 1 << draw(32) : draw(36) - 3;
            case 2:
                return draw(3) == 0 ? draw(9) : draw(4);
            case 6:
            case 8:
                return drawSignal();
            case 7:
                return draw(10) == 0 ? draw(6) - 2 : draw(3);
            case 9:
                return draw(7) - 1;
            default:
                return draw(32);
        }
    }

    private static String oneCall(SignalKernel x, Model m) {
        int pid = draw(30) == 0 ? draw(8) - 2 : draw(m.procs.length);
        int kind = draw(10);
        if (kind < 4) {
            int rounds = draw(12) == 0 ? draw(80) - 5 : draw(4);
            checks.due("run(" + rounds + ")", x.run(rounds), m.run(rounds));
            return "run(" + rounds + ")";
        }
        if (kind < 7) {
            int sig = drawSignal();
            checks.due("send(" + pid + ", " + sig + ")", x.send(pid, sig), m.send(pid, sig));
            return "send(" + pid + ", " + sig + ")";
        }
        if (kind < 9) {
            int sig = draw(20) == 0 ? draw(36) - 2 : 1 + draw(31);
            int handler = draw(36) - 3;
            int flags = draw(10) - 1;
            checks.due("setAction(" + pid + ", " + sig + ", " + handler + ", " + flags + ")",
                x.setAction(pid, sig, handler, flags), m.setAction(pid, sig, handler, flags));
            return "setAction(" + pid + ", " + sig + ", " + handler + ", " + flags + ")";
        }
        int addr = draw(34) - 1;
        int op = draw(30) == 0 ? draw(20) - 2 : drawOp();
        int arg = drawArg(op);
        checks.due("poke(" + pid + ", " + addr + ", " + op + ", " + arg + ")",
            x.poke(pid, addr, op, arg), m.poke(pid, addr, op, arg));
        return "poke(" + pid + ", " + addr + ", " + op + ", " + arg + ")";
    }
}
