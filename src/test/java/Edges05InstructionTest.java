import java.util.Arrays;

/** The edges that promise 5 names of the instructions, a test for each sentence. */
public final class Edges05InstructionTest implements Numbers {
    private static final int[] EDGES = {LEAST, LEAST + 1, -2, -1, 0, 1, 2, GREATEST - 1, GREATEST};
    private static final Checks checks = new Checks("Edges05InstructionTest");

    public static void main(String[] args) {
        nextCell();
        wrapping();
        halt();
        haltKeepsPc();
        loadA();
        loadB();
        jump();
        jumpIfNotZero();
        killingOneself();
        killAnswers();
        masks();
        maskAdds();
        maskRemoves();
        maskSets();
        maskRefusals();
        sigactSignals();
        sigactFixedSignals();
        sigactHandlers();
        sigact();
        noSleep();
        sleep();
        sigretAtDepthZero();
        sigret();
        out();
        self();
        pending();
        swap();
        nop();
        onlyTheProcessChanges();
        onlyKillReachesAnother();
        checks.finish();
    }

    private static void nextCell() {
        checks.sentence("Unless the instruction says otherwise, PC += 1 afterwards.");
        int[] ops = {LDA, LDB, ADD, JNZ, KILL, MASK, SIGACT, SLEEP, SIGRET, OUT, SELF, PENDING, SWAP, NOP};
        for (int op : ops) {
            for (int addr = 0; addr <= 31; addr++) {
                SignalKernel x = new SignalKernel(1, 1);
                x.poke(0, addr, op, 0);
                if (addr > 0) {
                    x.poke(0, 0, JMP, addr);
                    x.run(1);
                }
                x.run(1);
                checks.due("R_PC after op " + op + " in cell " + addr, x.reg(0, R_PC), addr + 1);
                checks.due("state(0)", x.state(0), RUNNING);
            }
        }
    }

    private static void wrapping() {
        checks.sentence("All int arithmetic wraps as Java int arithmetic does.");
        checks.due("the greatest + 1", Scenes.after(2, LDA, GREATEST, ADD, 1).reg(0, R_A), LEAST);
        checks.due("the greatest + 0", Scenes.after(2, LDA, GREATEST, ADD, 0).reg(0, R_A), GREATEST);
        checks.due("the one below + 1", Scenes.after(2, LDA, GREATEST - 1, ADD, 1).reg(0, R_A), GREATEST);
        checks.due("the least - 1", Scenes.after(2, LDA, LEAST, ADD, -1).reg(0, R_A), GREATEST);
        checks.due("the one above the least - 1", Scenes.after(2, LDA, LEAST + 1, ADD, -1).reg(0, R_A), LEAST);
        for (int a : EDGES) {
            for (int k : EDGES) {
                checks.due(a + " + " + k, Scenes.after(2, LDA, a, ADD, k).reg(0, R_A), (int) ((long) a + k));
            }
        }
    }

    private static void halt() {
        checks.sentence("**0 HALT:** p dies EXITED with status A, and the kernel logs (EV_EXIT, p, A, 0).");
        for (int a : EDGES) {
            for (int pid = 0; pid < 4; pid++) {
                SignalKernel x = Checks.spinning(4, 1);
                Checks.load(x, pid, 0, LDA, a, HALT, 9);
                x.run(2);
                checks.due("state(" + pid + ")", x.state(pid), EXITED);
                checks.due("R_STATUS", x.reg(pid, R_STATUS), a);
                checks.due("logTotal()", x.logTotal(), 1);
                checks.event(x, 0, EV_EXIT, pid, a, 0);
                checks.due("the others run on", x.run(1), 3);
            }
        }
    }

    private static void haltKeepsPc() {
        checks.sentence("PC is unchanged.");
        for (int addr = 0; addr <= 31; addr++) {
            SignalKernel x = new SignalKernel(1, 1);
            x.setAction(0, 2, addr, 0);
            x.send(0, 2);
            x.run(5);
            checks.due("state(0)", x.state(0), EXITED);
            checks.registers(x, 0, addr, 2, 1);
        }
    }

    private static void loadA() {
        checks.sentence("**1 LDA k:** A = k.");
        for (int k : EDGES) {
            checks.registers(Scenes.after(1, LDA, k), 0, 1, k, 0);
        }
    }

    private static void loadB() {
        checks.sentence("**2 LDB k:** B = k.");
        for (int k : EDGES) {
            checks.registers(Scenes.after(1, LDB, k), 0, 1, 0, k);
        }
    }

    private static void jump() {
        checks.sentence("**4 JMP k:** PC = k, with no further increment.");
        for (int k : EDGES) {
            checks.registers(Scenes.after(1, JMP, k), 0, k, 0, 0);
        }
        for (int k = 30; k <= 33; k++) {
            SignalKernel x = Scenes.after(1, JMP, k);
            checks.registers(x, 0, k, 0, 0);
            x.run(1);
            checks.due("the step after JMP " + k, x.state(0), k <= 31 ? EXITED : KILLED);
        }
    }

    private static void jumpIfNotZero() {
        checks.sentence("**5 JNZ k:** if A != 0 then PC = k, else PC += 1.");
        for (int a : EDGES) {
            for (int k : EDGES) {
                checks.registers(Scenes.after(2, LDA, a, JNZ, k), 0, a == 0 ? 2 : k, a, 0);
            }
        }
    }

    private static void killingOneself() {
        checks.sentence("If p itself died by it, nothing more happens, and PC is unchanged.");
        for (int pid = 0; pid < 4; pid++) {
            SignalKernel x = Checks.spinning(4, 1);
            Checks.load(x, pid, 0, SELF, 0, LDA, 77, KILL, 9);
            x.run(3);
            checks.due("state(" + pid + ")", x.state(pid), KILLED);
            checks.registers(x, pid, 2, 77, pid);
            checks.due("logTotal()", x.logTotal(), 1);
            checks.event(x, 0, EV_TERM, pid, 9, 1);
            int other = (pid + 1) % 4;
            x = Checks.spinning(4, 1);
            Checks.load(x, pid, 0, LDB, other, LDA, 77, KILL, 9);
            x.run(3);
            checks.due("state(" + other + ")", x.state(other), KILLED);
            checks.registers(x, pid, 3, 1, other);
        }
    }

    private static void killAnswers() {
        checks.sentence("Otherwise A = r and PC += 1.");
        for (int sig = 1; sig <= 31; sig++) {
            if (sig == 9) {
                continue;
            }
            SignalKernel x = Scenes.after(4, LDA, -1, MASK, 2, KILL, sig, KILL, sig);
            // A blocked signal, or one that comes before the second KILL runs.
            checks.registers(x, 0, sig == 15 ? 3 : 4, sig < 15 ? 0 : sig == 15 ? 1 : 2, 0);
        }
        int[] targets = {LEAST, -1, 1, GREATEST};
        for (int dst : targets) {
            checks.registers(Scenes.after(2, LDB, dst, KILL, 1), 0, 2, ESRCH, dst);
            checks.registers(Scenes.after(2, LDB, dst, KILL, 32), 0, 2, EINVAL, dst);
        }
        int[] signals = {LEAST, -1, 0, 32, GREATEST};
        for (int sig : signals) {
            checks.registers(Scenes.after(2, LDA, 5, KILL, sig), 0, 2, EINVAL, 0);
        }
        SignalKernel x = Scenes.after(2, LDA, -1, MASK, 2, KILL, 16, JMP, 2);
        for (int i = 1; i <= 10; i++) {
            x.run(1);
            checks.registers(x, 0, 3, i <= 8 ? i : EAGAIN, 0);
            x.run(1);
        }
    }

    private static void masks() {
        checks.sentence("In these three cases, bits 0, 9 and 15 of the new value are then cleared, and A becomes the value MASK had before this instruction ran (the new MASK is computed from the old A).");
        int[] values = {0, -1, LEAST, GREATEST, UNBLOCKABLE, ~UNBLOCKABLE, 1 << 8 | 1 << 10, 1 << 14 | 1 << 16, 2};
        for (int old : values) {
            for (int a : values) {
                int kept = old & ~UNBLOCKABLE;
                int[] due = {kept | a, kept & ~a, a};
                for (int k = 0; k <= 2; k++) {
                    SignalKernel x = Scenes.after(4, LDA, old, MASK, 2, LDA, a, MASK, k);
                    checks.due("MASK " + k + " of " + a + " over " + old, x.reg(0, R_MASK), due[k] & ~UNBLOCKABLE);
                    checks.registers(x, 0, 4, kept, 0);
                }
            }
        }
    }

    private static void maskAdds() {
        checks.sentence("If k == 0, then MASK |= A.");
        checks.due("R_MASK", Scenes.after(4, LDA, 2, MASK, 2, LDA, 4, MASK, 0).reg(0, R_MASK), 6);
    }

    private static void maskRemoves() {
        checks.sentence("If k == 1, then MASK &= ~A.");
        checks.due("R_MASK", Scenes.after(4, LDA, 6, MASK, 2, LDA, 12, MASK, 1).reg(0, R_MASK), 2);
    }

    private static void maskSets() {
        checks.sentence("If k == 2, then MASK = A.");
        checks.due("R_MASK", Scenes.after(4, LDA, 6, MASK, 2, LDA, 12, MASK, 2).reg(0, R_MASK), 12);
    }

    private static void maskRefusals() {
        checks.sentence("For any other k, A = EINVAL and MASK is unchanged.");
        int[] others = {LEAST, -2, -1, 3, 4, 256, GREATEST};
        for (int k : others) {
            SignalKernel x = Scenes.after(5, LDB, 8, LDA, 6, MASK, 2, LDA, 24, MASK, k);
            checks.registers(x, 0, 5, EINVAL, 8);
            checks.due("R_MASK after MASK " + k, x.reg(0, R_MASK), 6);
            checks.due("logTotal()", x.logTotal(), 0);
        }
    }

    private static void refusedSigact(int k, int handler) {
        SignalKernel x = new SignalKernel(1, 1);
        Checks.load(x, 0, 0, LDA, handler, LDB, 7, SIGACT, k);
        for (int sig = 1; sig <= 31; sig++) {
            x.setAction(0, sig, sig, 5);
        }
        x.run(2);
        long[] before = Checks.view(x);
        x.run(1);
        checks.registers(x, 0, 3, EINVAL, 7);
        long[] after = Checks.view(x);
        after[1 + R_PC] = before[1 + R_PC];
        after[1 + R_A] = before[1 + R_A];
        checks.due("SIGACT " + k + " of " + handler + " changes only PC and A", Arrays.equals(before, after) ? 1 : 0, 1);
    }

    private static void takenSigact(int k, int handler) {
        SignalKernel x = Scenes.after(3, LDA, handler, LDB, 7, SIGACT, k);
        checks.registers(x, 0, 3, H_DFL, 7);
        checks.due("getAction(0, " + k + ", 0)", x.getAction(0, k, 0), handler);
        checks.due("getAction(0, " + k + ", 1)", x.getAction(0, k, 1), 7);
    }

    private static void sigactSignals() {
        checks.sentence("k is not in 1..31;");
        int[] outside = {LEAST, -32, -1, 0, 32, 33, GREATEST};
        for (int k : outside) {
            refusedSigact(k, 0);
            refusedSigact(k, H_DFL);
        }
        takenSigact(1, 0);
        takenSigact(31, 0);
    }

    private static void sigactFixedSignals() {
        checks.sentence("k is 9 or 15;");
        int[] handlers = {H_DFL, H_IGN, 0, 31};
        for (int handler : handlers) {
            for (int k = 8; k <= 16; k++) {
                if (k == 9 || k == 15) {
                    refusedSigact(k, handler);
                } else {
                    takenSigact(k, handler);
                }
            }
        }
    }

    private static void sigactHandlers() {
        checks.sentence("A is neither H_DFL, H_IGN nor in 0..31.");
        int[] outside = {LEAST, -4, -3, 32, 33, GREATEST};
        for (int handler : outside) {
            refusedSigact(1, handler);
            refusedSigact(31, handler);
        }
        for (int handler = H_IGN; handler <= 31; handler++) {
            takenSigact(1, handler);
            takenSigact(31, handler);
        }
    }

    private static void sigact() {
        checks.sentence("Otherwise, with h0 the old handler, disposition k becomes (A, B & 7), and A = h0.");
        int[] flags = {0, 1, 7, 8, 9, -1, -8, LEAST, GREATEST};
        for (int b : flags) {
            for (int old = H_IGN; old <= 31; old += 11) {
                SignalKernel x = new SignalKernel(2, 1);
                Checks.load(x, 1, 0, LDA, 30, LDB, b, SIGACT, 17);
                x.setAction(1, 17, old, 2);
                x.run(3);
                checks.registers(x, 1, 3, old, b);
                checks.due("getAction(1, 17, 0)", x.getAction(1, 17, 0), 30);
                checks.due("getAction(1, 17, 1)", x.getAction(1, 17, 1), b & 7);
                checks.due("getAction(0, 17, 0)", x.getAction(0, 17, 0), H_DFL);
            }
        }
    }

    private static void noSleep() {
        checks.sentence("**9 SLEEP k:** if k <= 0, then A = 0 and PC += 1.");
        int[] none = {LEAST, -1, 0};
        for (int k : none) {
            SignalKernel x = Scenes.after(3, LDA, 5, LDB, 6, SLEEP, k);
            checks.registers(x, 0, 3, 0, 6);
            checks.due("R_SLEEP after SLEEP " + k, x.reg(0, R_SLEEP), 0);
            checks.due("state(0)", x.state(0), RUNNING);
        }
    }

    private static void sleep() {
        checks.sentence("Otherwise sleep-left = k and PC stays, so it points at this SLEEP.");
        int[] some = {1, 2, GREATEST};
        for (int k : some) {
            SignalKernel x = Scenes.after(3, LDA, 5, LDB, 6, SLEEP, k);
            checks.registers(x, 0, 2, 5, 6);
            checks.due("R_SLEEP after SLEEP " + k, x.reg(0, R_SLEEP), k);
            checks.due("state(0)", x.state(0), SLEEPING);
        }
    }

    private static void sigretAtDepthZero() {
        checks.sentence("**10 SIGRET:** if depth == 0, then A = EINVAL and PC += 1.");
        SignalKernel x = Scenes.after(5, LDA, 4, MASK, 2, LDA, 5, LDB, 6, SIGRET, 0);
        checks.registers(x, 0, 5, EINVAL, 6);
        checks.due("R_SP", x.reg(0, R_SP), 64);
        checks.due("R_DEPTH", x.reg(0, R_DEPTH), 0);
        checks.due("R_MASK", x.reg(0, R_MASK), 4);
        x = Scenes.deep(1, 1);
        Checks.load(x, 0, 0, SIGRET, 0);
        x.run(2);
        checks.registers(x, 0, 1, EINVAL, 0);
        checks.due("R_SP after one return too many", x.reg(0, R_SP), 64);
        checks.due("R_DEPTH after one return too many", x.reg(0, R_DEPTH), 0);
    }

    private static void sigret() {
        checks.sentence("Otherwise depth -= 1 and the frame at index depth is popped: PC, A, B and MASK take its saved values, SP += 4, and there is no further PC += 1.");
        for (int most = 1; most <= 4; most++) {
            SignalKernel x = Scenes.nested(most);
            for (int level = most - 1; level >= 0; level--) {
                for (int pid = 0; pid < 4; pid++) {
                    x.poke(pid, 4 * level + 6, SIGRET, 99);
                }
                x.run(1);
                for (int pid = 0; pid < 4; pid++) {
                    checks.registers(x, pid, 4 * level + 2, 40 * pid + level, -40 * pid - level);
                    checks.due("R_MASK", x.reg(pid, R_MASK), ((1 << level) - 1) << 28);
                    checks.due("R_DEPTH", x.reg(pid, R_DEPTH), level);
                    checks.due("R_SP", x.reg(pid, R_SP), 64 - 4 * level);
                }
            }
        }
    }

    private static void out() {
        checks.sentence("**11 OUT:** log (EV_OUT, p, A, 0).");
        for (int a : EDGES) {
            SignalKernel x = Checks.spinning(4, 1);
            Checks.load(x, 3, 0, LDA, a, OUT, 5);
            x.run(2);
            checks.registers(x, 3, 2, a, 0);
            checks.due("logTotal()", x.logTotal(), 1);
            checks.event(x, 0, EV_OUT, 3, a, 0);
        }
    }

    private static void self() {
        checks.sentence("**12 SELF:** B = p.");
        for (int pid = 0; pid < 4; pid++) {
            SignalKernel x = new SignalKernel(4, 1);
            Checks.load(x, pid, 0, LDA, 5, LDB, 9, SELF, 7);
            x.run(3);
            checks.registers(x, pid, 3, 5, pid);
        }
    }

    private static void pending() {
        checks.sentence("**13 PENDING:** A = the R_PENDING value of p.");
        for (int sig = 1; sig <= 31; sig++) {
            if (sig == 9 || sig == 15) {
                continue;
            }
            SignalKernel x = Scenes.masked(-1);
            Checks.load(x, 0, 2, PENDING, 0);
            x.send(0, sig);
            x.run(1);
            checks.registers(x, 0, 3, 1 << sig, 0);
        }
        checks.registers(Scenes.after(2, LDA, 5, PENDING, 0), 0, 2, 0, 0);
        SignalKernel x = Scenes.masked(-1);
        Checks.load(x, 0, 2, PENDING, 0);
        for (int i = 0; i < 8; i++) {
            x.send(0, 31 - i);
            x.send(0, 1 + i);
        }
        x.run(1);
        checks.registers(x, 0, 3, 0xff0001fe, 0);
        ownPending();
    }

    private static void ownPending() {
        SignalKernel x = Checks.spinning(4, 1);
        for (int pid = 0; pid < 4; pid++) {
            Checks.load(x, pid, 0, LDA, -1, MASK, 2, PENDING, 0);
        }
        x.run(2);
        for (int i = 0; i < 32; i++) {
            x.send(i % 4, 16 + i / 8 + 4 * (i % 4));
            x.send(i % 4, 1 + i % 4);
        }
        x.run(1);
        for (int pid = 0; pid < 4; pid++) {
            checks.due("A of " + pid, x.reg(pid, R_A), 0xf << 16 + 4 * pid | 2 << pid);
        }
    }

    private static void swap() {
        checks.sentence("**14 SWAP:** A and B are exchanged.");
        for (int a : EDGES) {
            for (int b : EDGES) {
                checks.registers(Scenes.after(3, LDA, a, LDB, b, SWAP, 5), 0, 3, b, a);
            }
        }
    }

    private static void nop() {
        checks.sentence("**15 NOP:** nothing besides PC += 1.");
        SignalKernel x = Scenes.after(2, LDA, 5, LDB, 6, NOP, 7);
        long[] before = Checks.view(x);
        x.run(1);
        before[1 + R_PC] = 3;
        checks.unchanged("NOP, but for PC", x, before);
    }

    /** Process 2 of four is about to run this instruction; the others are busy, and do not move PC. */
    private static SignalKernel beside(int op, int k) {
        SignalKernel x = Checks.spinning(4, 2);
        for (int pid = 0; pid < 4; pid++) {
            Checks.load(x, pid, 0, LDA, -1, MASK, 2, LDA, 20 + pid, LDB, pid == 2 ? 3 : 0, JMP, 4);
        }
        x.run(5);
        for (int pid = 0; pid < 4; pid++) {
            x.send(pid, 1);
            x.send(pid, 31);
        }
        x.poke(2, 4, op, k);
        return x;
    }

    private static void onlyTheProcessChanges() {
        checks.sentence("A step changes only process p, the serial counter and the log.");
        int[] args = {0, 1, 2, 16, 32};
        for (int op = 0; op <= 15; op++) {
            for (int k : args) {
                if (op != KILL || k == 0 || k == 32) {
                    SignalKernel x = beside(op, k);
                    x.run(1);
                    checks.othersAlike("op " + op + ", arg " + k, 2, x, beside(op, k));
                }
            }
        }
    }

    private static void onlyKillReachesAnother() {
        checks.sentence("The one exception is OP_KILL, whose SEND may also change the target process.");
        SignalKernel x = beside(KILL, 16);
        x.run(1);
        checks.due("R_QUEUED of the target", x.reg(3, R_QUEUED), 2);
        checks.due("R_QUEUED of the sender", x.reg(2, R_QUEUED), 1);
        checks.due("R_QUEUED of another", x.reg(0, R_QUEUED), 1);
        x = beside(KILL, 9);
        x.run(1);
        checks.due("state of the target", x.state(3), KILLED);
        checks.due("state of the sender", x.state(2), RUNNING);
        checks.due("state of another", x.state(0), RUNNING);
    }
}
