/** Promise 5: which signal is delivered, and what its disposition does. */
public final class Promise05DeliveryTest {
    private static final int HANDLER = 20;
    private static final Checks checks = new Checks("Promise05DeliveryTest");

    public static void main(String[] args) {
        defaultActions();
        ignored();
        lowestStandardFirst();
        earliestEntryNext();
        fullQueueOfTheLastProcess();
        blockedOnesAreSkipped();
        oneDeliveryAStep();
        handlerEntry();
        deferring();
        resetting();
        interruptedSleep();
        interruptedAtTheLastMoment();
        interruptedSleepBesideALostCell();
        nesting();
        tooDeep();
        tooDeepInTheLastProcess();
        stopIsNeverBlocked();
        checks.finish();
    }

    private static void defaultActions() {
        for (int sig = 1; sig <= 31; sig++) {
            if (sig == 9) {
                continue;
            }
            SignalKernel x = Checks.spinning(2, 1);
            x.send(0, 22);
            x.send(1, sig);
            checks.due("run(1)", x.run(1), 2);
            if (sig == 13 || sig == 14) {
                checks.due(sig + " is ignored", x.state(1), SignalKernel.RUNNING);
                checks.event(x, 1, SignalKernel.EV_IGNORE, 1, sig, 2);
            } else if (sig == 12 || sig == 15) {
                checks.due(sig + " stops", x.state(1), SignalKernel.STOPPED);
                checks.event(x, 1, SignalKernel.EV_STOP, 1, sig, 2);
            } else {
                checks.due(sig + " terminates", x.state(1), SignalKernel.KILLED);
                checks.due(sig + " is the status", x.reg(1, SignalKernel.R_STATUS), sig);
                checks.event(x, 1, SignalKernel.EV_TERM, 1, sig, 2);
            }
            checks.registers(x, 1, 0, 0, 0);
            checks.due("it is pending no more", x.reg(1, SignalKernel.R_PENDING), 0);
            checks.due("logTotal()", x.logTotal(), 2);
        }
        deathByDefaultClears();
    }

    private static void deathByDefaultClears() {
        SignalKernel x = Checks.holding(SignalKernel.OP_SLEEP, 9);
        x.run(1);
        x.send(0, 17);
        x.send(0, 18);
        x.send(0, 8);
        x.send(0, 3);
        x.run(1);
        checks.event(x, 0, SignalKernel.EV_TERM, 0, 3, 4);
        checks.due("reg(0, R_SLEEP)", x.reg(0, SignalKernel.R_SLEEP), 0);
        checks.due("reg(0, R_PENDING)", x.reg(0, SignalKernel.R_PENDING), 0);
        checks.due("reg(0, R_QUEUED)", x.reg(0, SignalKernel.R_QUEUED), 0);
        checks.due("pendingSerial(0, 8)", x.pendingSerial(0, 8), 0);
    }

    private static void ignored() {
        for (int sig = 1; sig <= 31; sig++) {
            if (sig == 9 || sig == 15) {
                continue;
            }
            SignalKernel x = Checks.spinning(1, 1);
            x.setAction(0, sig, SignalKernel.H_IGN, 7);
            x.send(0, sig);
            x.run(1);
            checks.due(sig + " is ignored", x.state(0), SignalKernel.RUNNING);
            checks.due("logTotal()", x.logTotal(), 1);
            checks.event(x, 0, SignalKernel.EV_IGNORE, 0, sig, 1);
            checks.due("R_PENDING", x.reg(0, SignalKernel.R_PENDING), 0);
            checks.due("RESETHAND is for handlers", x.getAction(0, sig, 0), SignalKernel.H_IGN);
            checks.due("flags stay", x.getAction(0, sig, 1), 7);
            checks.due("MASK stays", x.reg(0, SignalKernel.R_MASK), 0);
        }
    }

    private static SignalKernel ignoringAll() {
        SignalKernel x = Checks.spinning(1, 1);
        for (int sig = 1; sig <= 31; sig++) {
            x.setAction(0, sig, SignalKernel.H_IGN, 0);
        }
        return x;
    }

    private static void lowestStandardFirst() {
        SignalKernel x = ignoringAll();
        x.send(0, 16);
        x.send(0, 13);
        x.send(0, 14);
        for (int sig = 11; sig >= 1; sig--) {
            if (sig != 9) {
                x.send(0, sig);
            }
        }
        x.run(13);
        int n = 0;
        for (int sig = 1; sig <= 14; sig++) {
            if (sig != 9 && sig != 12) {
                checks.due("delivery " + n, x.logField(n, 2), sig);
                n++;
            }
        }
        checks.due("then the queue", x.logField(n, 2), 16);
        checks.due("logTotal()", x.logTotal(), n + 1);
    }

    private static void earliestEntryNext() {
        SignalKernel x = ignoringAll();
        int[] order = {31, 20, 16, 31, 16, 25, 20, 31};
        for (int sig : order) {
            x.send(0, sig);
        }
        for (int i = 0; i < order.length; i++) {
            x.run(1);
            checks.event(x, i, SignalKernel.EV_IGNORE, 0, order[i], i + 1);
            checks.due("reg(0, R_QUEUED)", x.reg(0, SignalKernel.R_QUEUED), 7 - i);
            for (int j = i + 1; j < order.length; j++) {
                checks.due("the entries move forward", x.queued(0, j - i - 1, 0), order[j]);
                checks.due("with their serials", x.queued(0, j - i - 1, 1), j + 1);
            }
        }
        checks.due("room again", x.send(0, 30), 9);
        checks.due("queued(0, 0, 0)", x.queued(0, 0, 0), 30);
    }

    private static void fullQueueOfTheLastProcess() {
        SignalKernel x = Checks.spinning(4, 1);
        for (int i = 0; i < 8; i++) {
            x.setAction(3, 24 + i, SignalKernel.H_IGN, 0);
            x.send(3, 24 + i);
        }
        x.run(8);
        for (int i = 0; i < 8; i++) {
            checks.event(x, i, SignalKernel.EV_IGNORE, 3, 24 + i, i + 1);
        }
        checks.due("reg(3, R_QUEUED)", x.reg(3, SignalKernel.R_QUEUED), 0);
    }

    private static SignalKernel masking(int mask) {
        SignalKernel x = ignoringAll();
        Checks.load(x, 0, 0, SignalKernel.OP_LDA, mask, SignalKernel.OP_MASK, 2, SignalKernel.OP_JMP, 2);
        x.run(3);
        return x;
    }

    private static void blockedOnesAreSkipped() {
        SignalKernel x = masking(1 << 2 | 1 << 16 | 1 << 31);
        int[] order = {16, 31, 20, 16, 21, 31, 20};
        for (int sig : order) {
            x.send(0, sig);
        }
        x.send(0, 2);
        x.send(0, 3);
        x.run(10);
        checks.due("logTotal()", x.logTotal(), 4);
        checks.event(x, 0, SignalKernel.EV_IGNORE, 0, 3, 9);
        checks.event(x, 1, SignalKernel.EV_IGNORE, 0, 20, 3);
        checks.event(x, 2, SignalKernel.EV_IGNORE, 0, 21, 5);
        checks.event(x, 3, SignalKernel.EV_IGNORE, 0, 20, 7);
        checks.due("pendingSerial(0, 2)", x.pendingSerial(0, 2), 8);
        int[] left = {16, 1, 31, 2, 16, 4, 31, 6};
        for (int i = 0; i < 8; i++) {
            checks.due("queued(0, " + i / 2 + ", " + i % 2 + ")", x.queued(0, i / 2, i % 2), left[i]);
        }
        checks.due("reg(0, R_QUEUED)", x.reg(0, SignalKernel.R_QUEUED), 4);
        everyBlockedSignalWaits();
    }

    private static void everyBlockedSignalWaits() {
        for (int sig = 1; sig <= 31; sig++) {
            if (sig == 9 || sig == 15) {
                continue;
            }
            SignalKernel x = masking(1 << sig);
            x.send(0, sig);
            x.run(2);
            checks.due(sig + " is held back", x.logTotal(), 0);
            x = masking(~(1 << sig));
            x.send(0, sig);
            x.run(1);
            checks.due(sig + " alone is let through", x.logTotal(), 1);
        }
    }

    private static void oneDeliveryAStep() {
        SignalKernel x = Checks.holding(SignalKernel.OP_LDA, 5);
        x.send(0, 13);
        x.send(0, 14);
        x.run(1);
        checks.due("one delivery", x.logTotal(), 1);
        checks.registers(x, 0, 0, 0, 0);
        x.run(1);
        checks.due("the other", x.logTotal(), 2);
        checks.registers(x, 0, 0, 0, 0);
        x.run(1);
        checks.registers(x, 0, 1, 5, 0);
    }

    private static void handlerEntry() {
        for (int sig = 1; sig <= 31; sig++) {
            if (sig == 9 || sig == 15) {
                continue;
            }
            SignalKernel x = Checks.holding(SignalKernel.OP_LDA, 1 << 30, SignalKernel.OP_MASK, 2,
                SignalKernel.OP_LDA, 7, SignalKernel.OP_LDB, 8, SignalKernel.OP_JMP, 4);
            if (sig == 30) {
                x.poke(0, 0, SignalKernel.OP_LDA, 1 << 29);
            }
            int mask = sig == 30 ? 1 << 29 : 1 << 30;
            x.setAction(0, sig, HANDLER, 0);
            x.run(4);
            checks.due("send(0, " + sig + ")", x.send(0, sig), 1);
            checks.due("run(1)", x.run(1), 1);
            checks.registers(x, 0, HANDLER, sig, 1);
            checks.frame(x, 0, 4, 7, 8, mask);
            checks.due("depth", x.reg(0, SignalKernel.R_DEPTH), 1);
            checks.due("SP", x.reg(0, SignalKernel.R_SP), 60);
            checks.due("MASK", x.reg(0, SignalKernel.R_MASK), mask | 1 << sig);
            checks.due("it is pending no more", x.reg(0, SignalKernel.R_PENDING), 0);
            checks.due("the handler stays", x.getAction(0, sig, 0), HANDLER);
            checks.due("logTotal()", x.logTotal(), 1);
            checks.event(x, 0, SignalKernel.EV_HANDLER, 0, sig, 1);
        }
        handlersAtTheEdges();
    }

    private static void handlersAtTheEdges() {
        int[] edges = {0, 31};
        for (int handler : edges) {
            SignalKernel x = Checks.spinning(1, 1);
            x.setAction(0, 5, handler, 0);
            x.send(0, 5);
            x.run(1);
            checks.registers(x, 0, handler, 5, 1);
        }
    }

    private static void deferring() {
        for (int flags = 0; flags < 8; flags++) {
            SignalKernel x = Checks.spinning(1, 4);
            Checks.load(x, 0, HANDLER, SignalKernel.OP_JMP, HANDLER);
            x.setAction(0, 20, HANDLER, flags);
            x.send(0, 20);
            x.run(1);
            boolean nodefer = (flags & SignalKernel.SA_NODEFER) != 0;
            checks.due("flags " + flags + ": MASK", x.reg(0, SignalKernel.R_MASK), nodefer ? 0 : 1 << 20);
            checks.frame(x, 0, 0, 0, 0, 0);
            x.setAction(0, 20, HANDLER, flags);
            x.send(0, 20);
            x.run(1);
            checks.due("flags " + flags + ": depth", x.reg(0, SignalKernel.R_DEPTH), nodefer ? 2 : 1);
        }
    }

    private static void resetting() {
        for (int flags = 0; flags < 8; flags++) {
            SignalKernel x = Checks.spinning(1, 1);
            x.setAction(0, 6, HANDLER, flags);
            x.setAction(0, 7, HANDLER, flags);
            x.send(0, 6);
            x.run(1);
            boolean reset = (flags & SignalKernel.SA_RESETHAND) != 0;
            checks.due("flags " + flags + ": PC", x.reg(0, SignalKernel.R_PC), HANDLER);
            checks.due("flags " + flags + ": handler", x.getAction(0, 6, 0), reset ? SignalKernel.H_DFL : HANDLER);
            checks.due("flags " + flags + ": flags", x.getAction(0, 6, 1), reset ? 0 : flags);
            checks.due("the other's handler", x.getAction(0, 7, 0), HANDLER);
            checks.due("the other's flags", x.getAction(0, 7, 1), flags);
        }
    }

    private static void interruptedSleep() {
        for (int flags = 0; flags < 8; flags++) {
            SignalKernel x = Checks.holding(SignalKernel.OP_LDA, 5, SignalKernel.OP_LDB, 6, SignalKernel.OP_SLEEP, 4, SignalKernel.OP_JMP, 3);
            Checks.load(x, 0, HANDLER, SignalKernel.OP_SIGRET, 0);
            x.setAction(0, 17, HANDLER, flags);
            x.run(5);
            checks.due("reg(0, R_SLEEP)", x.reg(0, SignalKernel.R_SLEEP), 2);
            x.send(0, 17);
            x.run(1);
            boolean restart = (flags & SignalKernel.SA_RESTART) != 0;
            checks.due("flags " + flags + ": the sleep ends", x.reg(0, SignalKernel.R_SLEEP), 0);
            checks.due("flags " + flags + ": state(0)", x.state(0), SignalKernel.RUNNING);
            checks.frame(x, 0, restart ? 2 : 3, restart ? 5 : SignalKernel.EINTR, 6, 0);
            checks.registers(x, 0, HANDLER, 17, 1);
            x.run(1);
            checks.registers(x, 0, restart ? 2 : 3, restart ? 5 : SignalKernel.EINTR, 6);
            x.run(1);
            checks.due("flags " + flags + ": a restarted sleep is whole", x.reg(0, SignalKernel.R_SLEEP), restart ? 4 : 0);
        }
    }

    private static void interruptedAtTheLastMoment() {
        SignalKernel x = Checks.holding(SignalKernel.OP_SLEEP, 2);
        x.setAction(0, 1, HANDLER, 0);
        x.run(2);
        checks.due("reg(0, R_SLEEP)", x.reg(0, SignalKernel.R_SLEEP), 1);
        x.send(0, 1);
        x.run(1);
        checks.frame(x, 0, 1, SignalKernel.EINTR, 0, 0);
        checks.due("reg(0, R_SLEEP)", x.reg(0, SignalKernel.R_SLEEP), 0);
    }

    private static void interruptedSleepBesideALostCell() {
        SignalKernel x = new SignalKernel(1, 1);
        Checks.load(x, 0, 0, SignalKernel.OP_JMP, 31);
        Checks.load(x, 0, 31, SignalKernel.OP_SLEEP, 3);
        Checks.load(x, 0, HANDLER, SignalKernel.OP_SIGRET, 0);
        x.setAction(0, 1, HANDLER, 0);
        x.run(2);
        x.send(0, 1);
        x.run(1);
        checks.frame(x, 0, 32, SignalKernel.EINTR, 0, 0);
        x.run(2);
        checks.due("the saved pc may lie outside the code", x.state(0), SignalKernel.KILLED);
        checks.lastEvent(x, SignalKernel.EV_TERM, 0, 11, 0);
    }

    private static void nesting() {
        SignalKernel x = Checks.spinning(1, 4);
        for (int sig = 1; sig <= 4; sig++) {
            Checks.load(x, 0, 4 * sig, SignalKernel.OP_NOP, 0, SignalKernel.OP_SIGRET, 0);
            x.setAction(0, sig, 4 * sig, 0);
        }
        int[] saved = {0, 5, 9, 13};
        for (int sig = 1; sig <= 4; sig++) {
            checks.due("send(0, " + sig + ")", x.send(0, sig), sig);
            x.run(2);
            checks.due("depth", x.reg(0, SignalKernel.R_DEPTH), sig);
            checks.due("SP", x.reg(0, SignalKernel.R_SP), 64 - 4 * sig);
        }
        for (int level = 0; level < 4; level++) {
            checks.frame(x, level, saved[level], level, level, (1 << level + 1) - 2);
        }
        for (int level = 3; level >= 0; level--) {
            x.run(1);
            checks.registers(x, 0, saved[level], level, level);
            checks.due("depth", x.reg(0, SignalKernel.R_DEPTH), level);
            checks.due("SP", x.reg(0, SignalKernel.R_SP), 64 - 4 * level);
            checks.due("MASK", x.reg(0, SignalKernel.R_MASK), (1 << level + 1) - 2);
        }
    }

    private static void tooDeep() {
        SignalKernel x = Checks.holding(SignalKernel.OP_JMP, 0);
        Checks.load(x, 0, HANDLER, SignalKernel.OP_SLEEP, 9);
        x.setAction(0, 5, HANDLER, 0);
        x.setAction(0, 6, HANDLER, 0);
        x.setAction(0, 25, HANDLER, SignalKernel.SA_RESETHAND);
        x.send(0, 5);
        x.run(1);
        x.send(0, 6);
        x.run(2);
        checks.due("ignoring needs no frame", x.send(0, 13), 3);
        x.run(1);
        checks.due("state(0)", x.state(0), SignalKernel.SLEEPING);
        x.send(0, 25);
        x.send(0, 26);
        checks.due("run(1)", x.run(1), 1);
        checks.due("state(0)", x.state(0), SignalKernel.KILLED);
        checks.due("reg(0, R_STATUS)", x.reg(0, SignalKernel.R_STATUS), 11);
        checks.lastEvent(x, SignalKernel.EV_TERM, 0, 11, 4);
        checks.registers(x, 0, HANDLER, 6, 2);
        checks.due("depth stays", x.reg(0, SignalKernel.R_DEPTH), 2);
        checks.due("SP stays", x.reg(0, SignalKernel.R_SP), 56);
        checks.due("MASK stays", x.reg(0, SignalKernel.R_MASK), 1 << 5 | 1 << 6);
        checks.due("sleep-left", x.reg(0, SignalKernel.R_SLEEP), 0);
        checks.due("the queue is emptied", x.reg(0, SignalKernel.R_QUEUED), 0);
        checks.due("the handler is not reset", x.getAction(0, 25, 0), HANDLER);
        checks.frame(x, 0, 0, 0, 0, 0);
        checks.frame(x, 1, HANDLER, 5, 1, 1 << 5);
    }

    private static void tooDeepInTheLastProcess() {
        SignalKernel x = Checks.spinning(4, 4);
        x.setAction(3, 16, 0, SignalKernel.SA_NODEFER);
        for (int i = 0; i < 5; i++) {
            x.send(3, 16);
        }
        x.run(4);
        checks.due("depth", x.reg(3, SignalKernel.R_DEPTH), 4);
        checks.due("the newest frame", x.frame(3, 3, 2), 3);
        x.run(1);
        checks.due("state(3)", x.state(3), SignalKernel.KILLED);
        checks.event(x, 4, SignalKernel.EV_TERM, 3, 11, 5);
        checks.due("the others run on", x.run(1), 3);
    }

    private static void stopIsNeverBlocked() {
        SignalKernel x = masking(-1);
        x.send(0, 12);
        x.run(2);
        checks.due("12 can be blocked", x.state(0), SignalKernel.RUNNING);
        x.send(0, 15);
        x.run(1);
        checks.due("15 can't", x.state(0), SignalKernel.STOPPED);
        checks.event(x, 0, SignalKernel.EV_STOP, 0, 15, 2);
        checks.due("the blocked 12 waits", x.pendingSerial(0, 12), 1);
    }
}
