/** The edges that promise 1 names, a test for each sentence. */
public final class Edges01Test implements Numbers {
    private static final int[] ASKED = {LEAST, -4, -1, 0, 1, 2, 3, 4, 5, 6, 8, GREATEST};
    private static final int[] GIVEN = {1, 1, 1, 1, 1, 2, 3, 4, 4, 4, 4, 4};
    private static final Checks checks = new Checks("Edges01Test");

    public static void main(String[] args) {
        clamping();
        clampingIsToTheNearest();
        everyCellHalts();
        registersStart();
        depth();
        frames();
        sleepLeft();
        stoppedFlag();
        stateAndStatus();
        pendingSet();
        realTimeQueue();
        dispositionsStart();
        dispositions();
        logAndSerial();
        checks.finish();
    }

    private static void clamping() {
        checks.sentence("`SignalKernel(procs, maxDepth)` clamps `procs` to 1..4, giving P, and clamps `maxDepth` to 1..4, giving D.");
        clampedProcesses();
        clampedDepth();
    }

    private static void clampedProcesses() {
        for (int i = 0; i < ASKED.length; i++) {
            SignalKernel x = new SignalKernel(ASKED[i], 1);
            for (int pid = -1; pid <= 8; pid++) {
                boolean there = pid >= 0 && pid < GIVEN[i];
                checks.due("procs " + ASKED[i] + ": state(" + pid + ")", x.state(pid), there ? RUNNING : -1);
                checks.due("procs " + ASKED[i] + ": poke(" + pid + ", 0, 4, 0)", x.poke(pid, 0, JMP, 0), there ? 0 : ESRCH);
            }
            checks.due("procs " + ASKED[i] + ": run(64)", x.run(64), 64 * GIVEN[i]);
        }
    }

    private static void clampedDepth() {
        for (int i = 0; i < ASKED.length; i++) {
            SignalKernel x = Scenes.deep(ASKED[i], GIVEN[i]);
            checks.due("maxDepth " + ASKED[i] + ": state at the greatest depth", x.state(0), RUNNING);
            checks.due("maxDepth " + ASKED[i] + ": R_DEPTH", x.reg(0, R_DEPTH), GIVEN[i]);
            x = Scenes.deep(ASKED[i], GIVEN[i] + 1);
            checks.due("maxDepth " + ASKED[i] + ": state past it", x.state(0), KILLED);
            checks.due("maxDepth " + ASKED[i] + ": R_DEPTH", x.reg(0, R_DEPTH), GIVEN[i]);
        }
    }

    private static void clampingIsToTheNearest() {
        checks.sentence("A value below the least becomes the least; a value above the greatest becomes the greatest.");
        for (int i = 0; i < ASKED.length; i++) {
            SignalKernel x = new SignalKernel(ASKED[i], ASKED[ASKED.length - 1 - i]);
            SignalKernel twin = new SignalKernel(GIVEN[i], GIVEN[GIVEN.length - 1 - i]);
            for (int pid = 0; pid < 4; pid++) {
                x.poke(pid, 0, JMP, 0);
                twin.poke(pid, 0, JMP, 0);
                x.setAction(pid, 1, 0, NODEFER);
                twin.setAction(pid, 1, 0, NODEFER);
            }
            for (int sent = 0; sent < 5; sent++) {
                x.send(0, 1);
                twin.send(0, 1);
                x.run(1);
                twin.run(1);
                checks.unchanged("SignalKernel(" + ASKED[i] + ", " + ASKED[ASKED.length - 1 - i] + ")", x, Checks.view(twin));
            }
        }
    }

    private static void everyCellHalts() {
        checks.sentence("Every cell starts as (OP_HALT, 0).");
        for (int addr = 0; addr <= 31; addr++) {
            SignalKernel x = new SignalKernel(4, 1);
            for (int pid = 0; pid < 4; pid++) {
                x.setAction(pid, 1, addr, 0);
                x.send(pid, 1);
            }
            x.run(2);
            for (int pid = 0; pid < 4; pid++) {
                checks.due("state(" + pid + ") at cell " + addr, x.state(pid), EXITED);
                checks.due("R_STATUS at cell " + addr, x.reg(pid, R_STATUS), 1);
                checks.due("R_PC at cell " + addr, x.reg(pid, R_PC), addr);
            }
        }
        SignalKernel x = Scenes.after(2, JMP, 32);
        checks.due("there is no cell 32", x.state(0), KILLED);
    }

    private static void registersStart() {
        checks.sentence("PC, A and B (int), all 0 at the start; SP, which starts at 64; and MASK, which starts at 0.");
        int[] start = {0, 0, 0, 64, 0};
        for (int procs = 1; procs <= 4; procs++) {
            for (int pid = 0; pid < procs; pid++) {
                for (int which = R_PC; which <= R_MASK; which++) {
                    checks.due("reg(" + pid + ", " + which + ")", new SignalKernel(procs, 1).reg(pid, which), start[which]);
                }
            }
        }
    }

    private static void depth() {
        checks.sentence("depth is in 0..D and starts at 0.");
        for (int most = 1; most <= 4; most++) {
            for (int sent = 0; sent <= most + 1; sent++) {
                SignalKernel x = Scenes.deep(most, sent);
                checks.due("R_DEPTH", x.reg(0, R_DEPTH), Math.min(sent, most));
                checks.due("R_SP", x.reg(0, R_SP), 64 - 4 * Math.min(sent, most));
            }
        }
    }

    private static void frames() {
        checks.sentence("There are frames 0..depth-1, frame 0 being the oldest.");
        for (int depth = 0; depth <= 4; depth++) {
            SignalKernel x = Scenes.deep(4, depth);
            for (int level = -1; level <= 5; level++) {
                // The first frame saved B = 0; each later one saved the serial of the signal before.
                checks.due("depth " + depth + ": frame(0, " + level + ", 2)", x.frame(0, level, 2), level >= 0 && level < depth ? level : 0);
                checks.due("depth " + depth + ": frame(0, " + level + ", 1)", x.frame(0, level, 1), level >= 1 && level < depth ? 1 : 0);
            }
        }
    }

    private static void sleepLeft() {
        checks.sentence("0 means not sleeping, otherwise it is >= 1.");
        int[] lengths = {LEAST, -1, 0, 1, 2, GREATEST};
        for (int k : lengths) {
            SignalKernel x = new SignalKernel(1, 1);
            checks.due("R_SLEEP at the start", x.reg(0, R_SLEEP), 0);
            checks.due("state(0) at the start", x.state(0), RUNNING);
            x.poke(0, 0, SLEEP, k);
            x.run(1);
            checks.due("R_SLEEP after SLEEP " + k, x.reg(0, R_SLEEP), k >= 1 ? k : 0);
            checks.due("state(0) after SLEEP " + k, x.state(0), k >= 1 ? SLEEPING : RUNNING);
        }
    }

    private static void stoppedFlag() {
        checks.sentence("starts false.");
        for (int procs = 1; procs <= 4; procs++) {
            SignalKernel x = Checks.spinning(procs, 1);
            checks.due("steps of " + procs + " that are not stopped", x.run(1), procs);
            x.send(procs - 1, 14);
            checks.due("nobody is resumed", x.logTotal(), 0);
        }
    }

    private static void stateAndStatus() {
        checks.sentence("The status is 0 at the start; later it is an exit code or a terminating signal.");
        SignalKernel x = new SignalKernel(4, 1);
        x.poke(1, 0, LDA, -7);
        for (int pid = 0; pid < 4; pid++) {
            checks.due("R_STATUS at the start", x.reg(pid, R_STATUS), 0);
            checks.due("alive at the start", x.state(pid), RUNNING);
        }
        x.send(2, 31);
        x.send(3, 9);
        x.run(2);
        int[] status = {0, -7, 31, 9};
        for (int pid = 0; pid < 4; pid++) {
            checks.due("R_STATUS of the dead", x.reg(pid, R_STATUS), status[pid]);
            checks.due("state of the dead", x.state(pid), pid < 2 ? EXITED : KILLED);
        }
    }

    private static void pendingSet() {
        checks.sentence("holds bits of 1..15, and each pending signal has the serial of its pending instance.");
        SignalKernel x = Checks.spinning(4, 1);
        for (int pid = 0; pid < 4; pid++) {
            checks.due("it starts empty", x.reg(pid, R_PENDING), 0);
            for (int sig = 1; sig <= 15; sig++) {
                checks.due("with no serial", x.pendingSerial(pid, sig), 0);
            }
        }
        for (int pid = 3; pid >= 0; pid--) {
            checks.due("16 is not of the set", x.send(pid, 16), 3 * (3 - pid) + 1);
            checks.due("the greatest is", x.send(pid, 15), 3 * (3 - pid) + 2);
            checks.due("and the least", x.send(pid, 1), 3 * (3 - pid) + 3);
        }
        for (int pid = 0; pid < 4; pid++) {
            checks.due("pendingSerial(" + pid + ", 1)", x.pendingSerial(pid, 1), 3 * (3 - pid) + 3);
            checks.due("pendingSerial(" + pid + ", 15)", x.pendingSerial(pid, 15), 3 * (3 - pid) + 2);
            checks.due("pendingSerial(" + pid + ", 16)", x.pendingSerial(pid, 16), 0);
            checks.due("pendingSerial(" + pid + ", 0)", x.pendingSerial(pid, 0), 0);
        }
    }

    private static void realTimeQueue() {
        checks.sentence("holds at most 8 (signal, serial) entries, kept in send order.");
        for (int pid = 0; pid < 4; pid++) {
            SignalKernel x = Checks.spinning(4, 1);
            checks.due("it starts empty", x.reg(pid, R_QUEUED), 0);
            for (int i = 1; i <= 9; i++) {
                checks.due("entry " + i, x.send(pid, 32 - i), i <= 8 ? i : EAGAIN);
                checks.due("R_QUEUED", x.reg(pid, R_QUEUED), Math.min(i, 8));
            }
            for (int i = 0; i <= 9; i++) {
                checks.due("queued(" + pid + ", " + i + ", 0)", x.queued(pid, i, 0), i < 8 ? 31 - i : 0);
                checks.due("queued(" + pid + ", " + i + ", 1)", x.queued(pid, i, 1), i < 8 ? i + 1 : 0);
            }
        }
    }

    private static void dispositionsStart() {
        checks.sentence("All start as (H_DFL, 0).");
        SignalKernel x = new SignalKernel(4, 4);
        for (int pid = 0; pid < 4; pid++) {
            for (int sig = 0; sig <= 32; sig++) {
                boolean there = sig >= 1 && sig <= 31;
                checks.due("getAction(" + pid + ", " + sig + ", 0)", x.getAction(pid, sig, 0), there ? H_DFL : 0);
                checks.due("getAction(" + pid + ", " + sig + ", 1)", x.getAction(pid, sig, 1), 0);
            }
        }
    }

    private static void dispositions() {
        checks.sentence("Each is a handler (H_DFL, H_IGN or a code address 0..31) together with flags 0..7.");
        SignalKernel x = new SignalKernel(4, 4);
        int[] handlers = {H_IGN, H_DFL, 0, 31};
        for (int handler : handlers) {
            for (int flags = -1; flags <= 8; flags++) {
                x.setAction(3, 31, handler, flags);
                checks.due("the handler", x.getAction(3, 31, 0), handler);
                checks.due("the flags of " + flags, x.getAction(3, 31, 1), flags & 7);
            }
        }
    }

    private static void logAndSerial() {
        checks.sentence("The log is empty, logTotal is 0, and the next serial is 1.");
        for (int pid = 0; pid < 4; pid++) {
            SignalKernel x = new SignalKernel(4, 4);
            checks.due("logTotal()", x.logTotal(), 0);
            for (int i = -1; i <= 128; i++) {
                checks.event(x, i, 0, 0, 0, 0);
            }
            checks.due("send(" + pid + ", 9)", x.send(pid, 9), 1);
            checks.due("logTotal()", x.logTotal(), 1);
            checks.event(x, 0, EV_TERM, pid, 9, 1);
            checks.event(x, 1, 0, 0, 0, 0);
        }
    }
}
