/** Promise 2: poke. */
public final class Promise02Test {
    private static final Checks checks = new Checks("Promise02Test");

    public static void main(String[] args) {
        refusals();
        refusedCallsChangeNothing();
        everyCellAndArgument();
        onlyOneCell();
        inAnyState();
        checks.finish();
    }

    private static void refusals() {
        SignalKernel x = new SignalKernel(2, 1);
        int[] badPids = {Integer.MIN_VALUE, -1, 2, 3, 4, Integer.MAX_VALUE};
        for (int pid : badPids) {
            checks.due("poke(" + pid + ", 0, 1, 1)", x.poke(pid, 0, 1, 1), SignalKernel.ESRCH);
            checks.due("poke(" + pid + ", 32, 16, 1)", x.poke(pid, 32, 16, 1), SignalKernel.ESRCH);
        }
        int[] badAddrs = {Integer.MIN_VALUE, -1, 32, 33, Integer.MAX_VALUE};
        for (int addr : badAddrs) {
            checks.due("poke(1, " + addr + ", 1, 1)", x.poke(1, addr, 1, 1), SignalKernel.EINVAL);
            checks.due("poke(1, " + addr + ", 16, 1)", x.poke(1, addr, 16, 1), SignalKernel.EINVAL);
        }
        int[] badOps = {Integer.MIN_VALUE, -1, 16, 17, Integer.MAX_VALUE};
        for (int op : badOps) {
            checks.due("poke(1, 5, " + op + ", 1)", x.poke(1, 5, op, 1), SignalKernel.EINVAL);
        }
        for (int op = 0; op <= 15; op++) {
            checks.due("poke(1, 5, " + op + ", 1)", x.poke(1, 5, op, 1), 0);
        }
    }

    private static void refusedCallsChangeNothing() {
        SignalKernel x = new SignalKernel(2, 1);
        Checks.load(x, 0, 0, SignalKernel.OP_LDA, 7, SignalKernel.OP_HALT, 0);
        long[] before = Checks.view(x);
        x.poke(0, 0, 16, 9);
        x.poke(0, 0, -1, 9);
        x.poke(-1, 0, 1, 9);
        x.poke(2, 0, 1, 9);
        x.poke(1, -32, 1, 9);
        x.poke(0, 32, 1, 9);
        checks.unchanged("a refused poke", x, before);
        checks.due("run(2)", x.run(2), 3);
        checks.due("reg(0, R_STATUS)", x.reg(0, SignalKernel.R_STATUS), 7);
        checks.due("reg(1, R_STATUS)", x.reg(1, SignalKernel.R_STATUS), 0);
    }

    private static void everyCellAndArgument() {
        int[] values = {Integer.MIN_VALUE, -1, 0, 1, 77, Integer.MAX_VALUE};
        for (int pid = 0; pid < 4; pid++) {
            for (int addr = 1; addr < 32; addr++) {
                int arg = values[addr % values.length];
                SignalKernel x = new SignalKernel(4, 1);
                checks.due("poke(" + pid + ", 0, 4, " + addr + ")", x.poke(pid, 0, SignalKernel.OP_JMP, addr), 0);
                checks.due("poke(" + pid + ", " + addr + ", 2, " + arg + ")", x.poke(pid, addr, SignalKernel.OP_LDB, arg), 0);
                x.run(2);
                checks.registers(x, pid, addr + 1, 0, arg);
            }
        }
    }

    private static void onlyOneCell() {
        SignalKernel x = new SignalKernel(2, 1);
        long[] before = Checks.view(x);
        checks.due("poke(0, 4, 15, 3)", x.poke(0, 4, 15, 3), 0);
        checks.unchanged("poke", x, before);
        Checks.load(x, 0, 0, 4, 3, 0, 0, 0, 0, 15, 0);
        x.run(4);
        checks.due("the cell after the poked one halts", x.reg(0, SignalKernel.R_PC), 5);
        checks.due("state(0)", x.state(0), SignalKernel.EXITED);
        checks.due("the other process's code is its own", x.reg(1, SignalKernel.R_PC), 0);
    }

    private static void inAnyState() {
        SignalKernel x = Checks.spinning(4, 1);
        Checks.load(x, 0, 0, SignalKernel.OP_HALT, 0);
        Checks.load(x, 2, 0, SignalKernel.OP_SLEEP, 2, SignalKernel.OP_HALT, 0);
        x.send(1, 9);
        x.send(3, 15);
        x.run(1);
        checks.due("state(0)", x.state(0), SignalKernel.EXITED);
        checks.due("state(1)", x.state(1), SignalKernel.KILLED);
        checks.due("state(2)", x.state(2), SignalKernel.SLEEPING);
        checks.due("state(3)", x.state(3), SignalKernel.STOPPED);
        long[] before = Checks.view(x);
        for (int pid = 0; pid < 4; pid++) {
            checks.due("poke(" + pid + ", 1, 1, 5)", x.poke(pid, 1, SignalKernel.OP_LDA, 5), 0);
            checks.due("poke(" + pid + ", 0, 15, 0)", x.poke(pid, 0, SignalKernel.OP_NOP, 0), 0);
        }
        checks.unchanged("poke in any state", x, before);
        checks.due("poke issues no serial", x.send(3, 14), 3);
        x.run(3);
        checks.registers(x, 2, 2, 5, 0);
        checks.registers(x, 3, 2, 5, 0);
        checks.due("the poked dead stay dead", x.state(0) * 10 + x.state(1), 34);
    }
}
