/** The edges that promise 2 names, a test for each sentence. */
public final class Edges02Test implements Numbers {
    private static final int[] BAD_ADDRS = {LEAST, -32, -1, 32, 33, 64, GREATEST};
    private static final int[] BAD_OPS = {LEAST, -16, -1, 16, 17, 32, GREATEST};
    private static final Checks checks = new Checks("Edges02Test");

    public static void main(String[] args) {
        inAnyState();
        order();
        pids();
        addresses();
        ops();
        refusedCallsChangeNothing();
        onlyThatCellChanges();
        anyArgument();
        checks.finish();
    }

    private static void inAnyState() {
        checks.sentence("`poke(pid, addr, op, arg)` stores (op, arg) in cell `addr` of `pid`'s code, in any state of `pid`, including EXITED and KILLED.");
        int[] states = {RUNNING, SLEEPING, STOPPED, EXITED};
        for (int pid = 0; pid < 4; pid++) {
            for (int addr = 0; addr < 32; addr += 31) {
                SignalKernel x = Scenes.busy(true);
                checks.due("state(" + pid + ")", x.state(pid), states[pid]);
                checks.due("poke(" + pid + ", " + addr + ", 1, 7)", x.poke(pid, addr, LDA, 7), 0);
                x = Scenes.busy(false);
                checks.due("state(" + pid + ")", x.state(pid), pid == 3 ? KILLED : states[pid]);
                checks.due("poke(" + pid + ", " + addr + ", 1, 7)", x.poke(pid, addr, LDA, 7), 0);
            }
        }
        pokedCellsRunLater();
    }

    private static void pokedCellsRunLater() {
        SignalKernel x = Scenes.busy(false);
        x.poke(0, 25, LDB, 61);
        x.poke(1, 11, LDB, 62);
        x.poke(2, 0, LDB, 63);
        x.run(19);
        checks.due("B of the running one", x.reg(0, R_B), 61);
        checks.due("B of the sleeper, not yet awake", x.reg(1, R_B), 3);
        x.run(1);
        checks.due("B of the sleeper, awake", x.reg(1, R_B), 62);
        for (int sig = 1; sig <= 31; sig++) {
            x.setAction(2, sig, H_IGN, 0);
        }
        x.send(2, 14);
        x.run(10);
        checks.due("B of the resumed one, with deliveries before it", x.reg(2, R_B), 0);
        x.run(1);
        checks.due("B of the resumed one", x.reg(2, R_B), 63);
    }

    private static void order() {
        checks.sentence("The conditions are considered in this order:");
        SignalKernel x = new SignalKernel(2, 1);
        checks.due("a bad pid and addr", x.poke(2, 32, 0, 0), ESRCH);
        checks.due("a bad pid and op", x.poke(-1, 0, 16, 0), ESRCH);
        checks.due("a bad pid, addr and op", x.poke(2, -1, -1, 0), ESRCH);
        checks.due("a bad addr and op", x.poke(1, 32, 16, 0), EINVAL);
    }

    private static void pids() {
        checks.sentence("If `pid` is not in 0..P-1, the answer is ESRCH.");
        for (int procs = 1; procs <= 4; procs++) {
            int count = procs;
            int[] outside = {LEAST, -4, -1, procs, procs + 1, 4, 5, GREATEST};
            for (int pid : outside) {
                checks.refused("P " + procs + ": poke(" + pid + ", 0, 2, 5)", () -> Scenes.numbered(count, 1), x -> x.poke(pid, 0, LDB, 5), ESRCH);
            }
            checks.due("P " + procs + ": poke(0, ..)", new SignalKernel(procs, 1).poke(0, 0, LDB, 5), 0);
            checks.due("P " + procs + ": poke(P-1, ..)", new SignalKernel(procs, 1).poke(procs - 1, 0, LDB, 5), 0);
        }
    }

    private static void addresses() {
        checks.sentence("If `addr` is not in 0..31, the answer is EINVAL.");
        for (int pid = 0; pid < 4; pid++) {
            int to = pid;
            for (int addr : BAD_ADDRS) {
                checks.refused("poke(" + pid + ", " + addr + ", 2, 5)", () -> Scenes.numbered(4, 1), x -> x.poke(to, addr, LDB, 5), EINVAL);
            }
            for (int addr = 0; addr <= 31; addr++) {
                SignalKernel x = Scenes.numbered(4, 1);
                checks.due("poke(" + pid + ", " + addr + ", 2, 5)", x.poke(pid, addr, LDB, 5), 0);
                x.run(addr);
                checks.due("B before cell " + addr, x.reg(pid, R_B), 0);
                x.run(1);
                checks.due("B after cell " + addr, x.reg(pid, R_B), 5);
            }
        }
    }

    private static void ops() {
        checks.sentence("If `op` is not in 0..15, the answer is EINVAL.");
        for (int op : BAD_OPS) {
            checks.refused("poke(1, 2, " + op + ", 5)", () -> Scenes.numbered(2, 1), x -> x.poke(1, 2, op, 5), EINVAL);
        }
        for (int op = 0; op <= 15; op++) {
            checks.due("poke(1, 2, " + op + ", 5)", Scenes.numbered(2, 1).poke(1, 2, op, 5), 0);
        }
        SignalKernel x = Scenes.numbered(1, 1);
        x.poke(0, 0, HALT, 5);
        x.run(1);
        checks.due("the least op runs", x.state(0), EXITED);
        x = Scenes.numbered(1, 1);
        x.poke(0, 0, NOP, 5);
        x.run(1);
        checks.registers(x, 0, 1, 0, 0);
    }

    private static void refusedCallsChangeNothing() {
        checks.sentence("A refused call changes nothing.");
        for (int pid = -1; pid <= 4; pid++) {
            int to = pid;
            int answer = pid < 0 || pid > 3 ? ESRCH : EINVAL;
            for (int addr : BAD_ADDRS) {
                checks.refused("poke(" + pid + ", " + addr + ", 0, 5)", () -> Scenes.busy(true), x -> x.poke(to, addr, HALT, 5), answer);
            }
            for (int op : BAD_OPS) {
                checks.refused("poke(" + pid + ", 26, " + op + ", 5)", () -> Scenes.busy(true), x -> x.poke(to, 26, op, 5), answer);
            }
        }
    }

    private static void onlyThatCellChanges() {
        checks.sentence("On success the answer is 0, and only that one cell changes.");
        for (int pid = 0; pid < 4; pid++) {
            for (int addr = 0; addr <= 31; addr++) {
                SignalKernel x = Scenes.busy(false);
                checks.due("poke(" + pid + ", " + addr + ", 0, 0)", x.poke(pid, addr, HALT, 0), 0);
                checks.unchanged("poke(" + pid + ", " + addr + ", 0, 0)", x, Checks.view(Scenes.busy(false)));
                // Poked back: had another cell changed too, the run would show it.
                x = Scenes.numbered(4, 1);
                x.poke(pid, addr, HALT, 0);
                x.poke(pid, addr, addr == 31 ? JMP : LDA, addr == 31 ? 0 : 100 * pid + addr);
                checks.alike("poke(" + pid + ", " + addr + ", ..) there and back", x, Scenes.numbered(4, 1));
            }
        }
    }

    private static void anyArgument() {
        checks.sentence("Any int is accepted as `arg`.");
        int[] args = {LEAST, LEAST + 1, -33, -1, 0, 1, 31, 32, 65536, GREATEST - 1, GREATEST};
        for (int arg : args) {
            for (int op = 0; op <= 15; op++) {
                checks.due("poke(0, 0, " + op + ", " + arg + ")", new SignalKernel(1, 1).poke(0, 0, op, arg), 0);
            }
            checks.due("A after LDA " + arg, Scenes.after(1, LDA, arg).reg(0, R_A), arg);
        }
    }
}
