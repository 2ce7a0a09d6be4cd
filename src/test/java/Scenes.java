/** Kernels in states that the tests of the edges start from. */
final class Scenes implements Numbers {
    private Scenes() {
    }

    /** Every cell loads a number of its own into A and the last one jumps back, so that a changed cell shows in a run. */
    static SignalKernel numbered(int procs, int maxDepth) {
        SignalKernel x = new SignalKernel(procs, maxDepth);
        for (int pid = 0; pid < procs; pid++) {
            for (int addr = 0; addr < 31; addr++) {
                x.poke(pid, addr, LDA, 100 * pid + addr);
            }
            x.poke(pid, 31, JMP, 0);
        }
        return x;
    }

    /**
     * Process 0 is two handlers deep, 1 sleeps in a handler, 2 is stopped with a full queue, 3 has died;
     * 0, 1 and 2 have signals pending, and seventeen serials or more are out.
     */
    static SignalKernel busy(boolean exited) {
        SignalKernel x = numbered(4, 3);
        x.setAction(0, 5, 20, 0);
        x.setAction(0, 17, 24, RESTART);
        x.setAction(1, 6, 10, 0);
        x.poke(1, 10, SLEEP, 20);
        x.send(0, 5);
        x.send(0, 17);
        x.send(1, 6);
        x.send(2, 15);
        if (exited) {
            x.poke(3, 0, HALT, 0);
        } else {
            x.send(3, 9);
        }
        x.run(3);
        x.send(0, 5);
        x.send(0, 17);
        x.send(1, 6);
        x.send(2, 12);
        x.send(2, 3);
        for (int i = 0; i < 8; i++) {
            x.send(2, 31 - i);
        }
        return x;
    }

    /** Process 0 of one has run the code at its first cells, this many rounds long. */
    static SignalKernel after(int rounds, int... code) {
        SignalKernel x = new SignalKernel(1, 4);
        Checks.load(x, 0, 0, code);
        x.run(rounds);
        return x;
    }

    /** Process 0 of one spins at cell 2 with this mask. */
    static SignalKernel masked(int mask) {
        return after(2, LDA, mask, MASK, 2, JMP, 2);
    }

    /** Process 0 of one has been stopped by signal 12 or 15, which has serial 1. */
    static SignalKernel stopped(int stop) {
        SignalKernel x = Checks.spinning(1, 4);
        x.send(0, stop);
        x.run(1);
        return x;
    }

    /** Process 0 of one is this many handlers deep, each entered by signal 1 at a spinning cell 0. */
    static SignalKernel deep(int maxDepth, int depth) {
        SignalKernel x = new SignalKernel(1, maxDepth);
        x.poke(0, 0, JMP, 0);
        x.setAction(0, 1, 0, NODEFER);
        for (int i = 0; i < depth; i++) {
            x.send(0, 1);
            x.run(1);
        }
        return x;
    }

    /**
     * Four processes, each this many handlers deep; at each depth it spins at cell 4 * depth + 2
     * with A and B of its own: 40 * pid + depth, and the same below 0.
     */
    static SignalKernel nested(int depth) {
        SignalKernel x = new SignalKernel(4, 4);
        for (int pid = 0; pid < 4; pid++) {
            for (int level = 0; level <= 4; level++) {
                Checks.load(x, pid, 4 * level, LDA, 40 * pid + level, LDB, -40 * pid - level, JMP, 4 * level + 2);
            }
            for (int level = 0; level < 4; level++) {
                x.setAction(pid, 28 + level, 4 * level + 4, 0);
            }
        }
        x.run(2);
        for (int i = 0; i < 4 * depth; i++) {
            x.send(i % 4, 28 + i / 4);
            if (i % 4 == 3) {
                x.run(3);
            }
        }
        return x;
    }

    /** A kernel of one process that has logged this many events, the values 1, 2, 3 and so on. */
    static SignalKernel logged(int events) {
        SignalKernel x = new SignalKernel(1, 1);
        Checks.load(x, 0, 0, ADD, 1, OUT, 0, JMP, 0);
        for (int i = 0; i < events; i++) {
            x.run(3);
        }
        return x;
    }
}
