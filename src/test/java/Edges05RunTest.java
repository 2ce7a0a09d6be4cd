/** The edges that promise 5 names of the rounds and of steps without a delivery, a test for each sentence. */
public final class Edges05RunTest implements Numbers {
    private static final Checks checks = new Checks("Edges05RunTest");

    public static void main(String[] args) {
        roundsAreClamped();
        zeroRounds();
        pidOrder();
        earlierSteps();
        countedSteps();
        orderOfConditions();
        deadOrStopped();
        everyOtherStep();
        sleepGoesBy();
        sleepReachesZero();
        sleepEndsTheStep();
        badPc();
        checks.finish();
    }

    private static void roundsAreClamped() {
        checks.sentence("`run(rounds)` clamps `rounds` to 0..64.");
        int[] asked = {LEAST, -64, -1, 0, 1, 2, 63, 64, 65, 66, 128, GREATEST};
        int[] given = {0, 0, 0, 0, 1, 2, 63, 64, 64, 64, 64, 64};
        for (int i = 0; i < asked.length; i++) {
            for (int procs = 1; procs <= 4; procs++) {
                SignalKernel x = Checks.spinning(procs, 1);
                Checks.load(x, procs - 1, 0, SLEEP, 1000);
                checks.due("P " + procs + ": run(" + asked[i] + ")", x.run(asked[i]), procs * given[i]);
                // The first round falls asleep, and each later one takes one off.
                checks.due("P " + procs + ": R_SLEEP after run(" + asked[i] + ")", x.reg(procs - 1, R_SLEEP), given[i] == 0 ? 0 : 1001 - given[i]);
            }
        }
    }

    private static void zeroRounds() {
        checks.sentence("With 0 rounds, nothing changes and the answer is 0.");
        int[] none = {LEAST, -2, -1, 0};
        for (int rounds : none) {
            checks.refused("run(" + rounds + ")", () -> Scenes.busy(false), x -> x.run(rounds), 0);
            checks.refused("run(" + rounds + ")", () -> Scenes.busy(true), x -> x.run(rounds), 0);
        }
        SignalKernel x = Scenes.busy(false);
        checks.due("run(1) is not nothing", x.run(1), 2);
    }

    private static void pidOrder() {
        checks.sentence("In each round, processes 0..P-1 take one STEP each, in pid order.");
        for (int procs = 1; procs <= 4; procs++) {
            SignalKernel x = new SignalKernel(procs, 1);
            for (int pid = 0; pid < procs; pid++) {
                Checks.load(x, pid, 0, OUT, 0, ADD, 1, JMP, 0);
            }
            x.run(4);
            checks.due("logTotal()", x.logTotal(), 2 * procs);
            for (int i = 0; i < 2 * procs; i++) {
                checks.event(x, i, EV_OUT, i % procs, i / procs, 0);
            }
        }
    }

    private static void earlierSteps() {
        checks.sentence("Each STEP sees the effects of all earlier steps, including those earlier in the same round.");
        for (int from = 0; from < 4; from++) {
            for (int to = 0; to < 4; to++) {
                SignalKernel x = Checks.spinning(4, 1);
                Checks.load(x, from, 0, LDB, to, KILL, 13, JMP, 2);
                x.run(2);
                checks.due(from + " to " + to + ": delivered in the same round", x.logTotal(), to > from ? 1 : 0);
                x.run(1);
                checks.due(from + " to " + to + ": or in the next", x.logTotal(), 1);
                checks.event(x, 0, EV_IGNORE, to, 13, 1);
            }
        }
    }

    private static void countedSteps() {
        checks.sentence("The answer is the number of counted steps.");
        SignalKernel x = Checks.spinning(4, 1);
        checks.due("the most", x.run(64), 256);
        for (int dead = 1; dead <= 4; dead++) {
            x.send(dead - 1, 9);
            checks.due("run(64) with " + dead + " dead", x.run(64), 64 * (4 - dead));
        }
        x = Checks.spinning(2, 1);
        Checks.load(x, 0, 0, SLEEP, 3, HALT, 0);
        checks.due("the last steps before a death count", x.run(64), 64 + 5);
    }

    private static void orderOfConditions() {
        checks.sentence("A STEP of process p considers these conditions in order:");
        SignalKernel x = Scenes.stopped(15);
        x.send(0, 1);
        x.run(1);
        checks.due("a stopped one is not delivered to", x.state(0), STOPPED);
        x = Scenes.after(1, SLEEP, 1);
        x.send(0, 13);
        x.run(1);
        checks.due("a delivery comes before the sleep", x.reg(0, R_SLEEP), 1);
        x = Scenes.after(1, JMP, 32);
        x.send(0, 13);
        x.run(1);
        checks.due("a delivery comes before the bad PC", x.state(0), RUNNING);
        x = Scenes.after(1, JMP, -1);
        x.send(0, 2);
        x.run(1);
        checks.due("even one that kills", x.reg(0, R_STATUS), 2);
        x = Scenes.after(1, SLEEP, 2);
        x.poke(0, 0, HALT, 0);
        x.run(2);
        checks.due("the sleep comes before the instruction", x.state(0), RUNNING);
        checks.due("which was poked away, and is passed by", x.reg(0, R_PC), 1);
        x = Scenes.after(1, JMP, 3);
        x.poke(0, 3, LDA, 7);
        x.send(0, 13);
        x.run(1);
        checks.registers(x, 0, 3, 0, 0);
        x.run(1);
        checks.registers(x, 0, 4, 7, 0);
    }

    private static void deadOrStopped() {
        checks.sentence("If p is EXITED, KILLED or stopped, nothing happens and the step is not counted.");
        for (int stop = 12; stop <= 15; stop += 3) {
            SignalKernel x = new SignalKernel(4, 1);
            Checks.load(x, 2, 0, SLEEP, 5);
            Checks.load(x, 3, 0, JMP, -1);
            x.send(1, 9);
            x.run(1);
            x.send(2, stop);
            x.send(3, stop);
            x.run(1);
            x.send(2, 1);
            x.send(2, 16);
            x.send(3, 16);
            int[] states = {EXITED, KILLED, STOPPED, STOPPED};
            for (int pid = 0; pid < 4; pid++) {
                checks.due("state(" + pid + ")", x.state(pid), states[pid]);
            }
            long[] before = Checks.view(x);
            checks.due("run(1)", x.run(1), 0);
            checks.unchanged("run(1)", x, before);
            checks.due("run(64)", x.run(64), 0);
            checks.unchanged("run(64)", x, before);
        }
    }

    private static void everyOtherStep() {
        checks.sentence("Every other step is counted.");
        int[] ops = {HALT, LDA, LDB, ADD, JMP, JNZ, KILL, MASK, SIGACT, SLEEP, SIGRET, OUT, SELF, PENDING, SWAP, NOP};
        for (int op : ops) {
            SignalKernel x = new SignalKernel(1, 1);
            x.poke(0, 0, op, 9);
            checks.due("the step of op " + op, x.run(1), 1);
        }
        for (int sig = 1; sig <= 31; sig++) {
            SignalKernel x = Checks.spinning(1, 1);
            x.send(0, sig);
            checks.due("the step that delivers " + sig, x.run(1), sig == 9 ? 0 : 1);
        }
        checks.due("the step that enters a handler too many", tooDeep().run(1), 1);
        checks.due("a step of sleep", Scenes.after(1, SLEEP, 2).run(1), 1);
        checks.due("the step that ends a sleep", Scenes.after(1, SLEEP, 1).run(1), 1);
        checks.due("the step of a bad PC", Scenes.after(1, JMP, 32).run(1), 1);
    }

    private static SignalKernel tooDeep() {
        SignalKernel x = Scenes.deep(1, 1);
        x.send(0, 1);
        return x;
    }

    private static void sleepGoesBy() {
        checks.sentence("If sleep-left > 0, then sleep-left -= 1.");
        int[] lengths = {1, 2, 3, 63, 64, 65, GREATEST};
        for (int k : lengths) {
            SignalKernel x = Scenes.after(1, SLEEP, k, JMP, 1);
            for (int gone = 1; gone <= 70; gone++) {
                checks.due("a step", x.run(1), 1);
                checks.due("SLEEP " + k + ": R_SLEEP after " + gone, x.reg(0, R_SLEEP), Math.max(0, k - gone));
                checks.due("SLEEP " + k + ": state(0) after " + gone, x.state(0), k > gone ? SLEEPING : RUNNING);
            }
        }
    }

    private static void sleepReachesZero() {
        checks.sentence("If it reaches 0, then A = 0 and PC += 1.");
        for (int addr = 0; addr <= 31; addr += 31) {
            for (int k = 1; k <= 3; k++) {
                SignalKernel x = new SignalKernel(1, 1);
                Checks.load(x, 0, 10, LDB, 6, LDA, 5, JMP, addr);
                x.setAction(0, 1, 10, 0);
                x.send(0, 1);
                x.poke(0, addr, SLEEP, k);
                x.run(5);
                for (int left = k; left >= 1; left--) {
                    checks.due("R_SLEEP", x.reg(0, R_SLEEP), left);
                    checks.registers(x, 0, addr, 5, 6);
                    x.run(1);
                }
                checks.registers(x, 0, addr + 1, 0, 6);
                checks.due("logTotal()", x.logTotal(), 1);
            }
        }
    }

    private static void sleepEndsTheStep() {
        checks.sentence("The step ends.");
        SignalKernel x = Scenes.after(2, SLEEP, 1, LDA, 9);
        checks.registers(x, 0, 1, 0, 0);
        x.run(1);
        checks.registers(x, 0, 2, 9, 0);
        x = Scenes.after(2, SLEEP, 2, LDA, 9);
        checks.registers(x, 0, 0, 0, 0);
        x = new SignalKernel(1, 1);
        x.poke(0, 0, JMP, 31);
        x.poke(0, 31, SLEEP, 1);
        x.run(3);
        checks.due("awake beyond the last cell, but not yet killed for it", x.state(0), RUNNING);
        x.run(1);
        checks.due("killed in the next step", x.state(0), KILLED);
    }

    private static void badPc() {
        checks.sentence("If PC is not in 0..31, p dies KILLED with status 11, the kernel logs (EV_TERM, p, 11, 0), and the step ends.");
        int[] outside = {LEAST, -32, -1, 32, 33, 64, GREATEST};
        for (int pid = 0; pid < 4; pid++) {
            for (int target : outside) {
                SignalKernel x = lost(pid, target);
                checks.due("state(" + pid + ") after JMP " + target, x.state(pid), RUNNING);
                checks.due("logTotal() after JMP " + target, x.logTotal(), 0);
                checks.due("run(1)", x.run(1), 4);
                checks.due("state(" + pid + ") at " + target, x.state(pid), KILLED);
                checks.due("R_STATUS", x.reg(pid, R_STATUS), 11);
                checks.registers(x, pid, target, 0, 0);
                checks.due("logTotal()", x.logTotal(), 1);
                checks.event(x, 0, EV_TERM, pid, 11, 0);
                checks.due("the others live", x.run(1), 3);
            }
            for (int target = 0; target <= 31; target++) {
                SignalKernel x = lost(pid, target);
                x.poke(pid, target, LDA, 5);
                x.run(1);
                checks.due("state(" + pid + ") at " + target, x.state(pid), RUNNING);
                checks.registers(x, pid, target + 1, 5, 0);
            }
        }
        offTheEnd();
    }

    private static SignalKernel lost(int pid, int target) {
        SignalKernel x = Checks.spinning(4, 1);
        x.poke(pid, 0, JMP, target);
        x.run(1);
        return x;
    }

    private static void offTheEnd() {
        SignalKernel x = new SignalKernel(1, 1);
        for (int addr = 0; addr < 32; addr++) {
            x.poke(0, addr, NOP, 0);
        }
        checks.due("run(32)", x.run(32), 32);
        checks.due("R_PC past the last cell", x.reg(0, R_PC), 32);
        checks.due("state(0)", x.state(0), RUNNING);
        checks.due("run(2)", x.run(2), 1);
        checks.due("state(0)", x.state(0), KILLED);
        checks.event(x, 0, EV_TERM, 0, 11, 0);
    }
}
