import java.util.function.IntFunction;

/** The edges that the document's head names, a test for each sentence. */
public final class EdgesHeadTest implements Numbers {
    private static final Checks checks = new Checks("EdgesHeadTest");

    public static void main(String[] args) {
        signalNumbers();
        standardAndRealTime();
        bitOfASignal();
        bitZero();
        setBitBlocks();
        fixedMaskBits();
        defaultTerminate();
        defaultStop();
        defaultIgnore();
        killActsAtSendTime();
        neverCaughtIgnoredOrBlocked();
        oneCounter();
        serials();
        loggingIssuesNoSerial();
        storedEvents();
        dyingSetsStateAndStatus();
        dyingClearsPending();
        dyingEmptiesTheQueue();
        dyingEndsSleepAndStop();
        dyingKeepsTheRest();
        checks.finish();
    }

    private static void signalNumbers() {
        checks.sentence("Signals are numbered 1..31.");
        int[] outside = {LEAST, -31, -1, 0, 32, 33, 63, 64, GREATEST};
        for (int sig : outside) {
            checks.refused("send(0, " + sig + ")", () -> Scenes.busy(false), x -> x.send(0, sig), EINVAL);
        }
        int[] inside = {1, 2, 30, 31};
        for (int sig : inside) {
            checks.due("send(0, " + sig + ")", Checks.spinning(1, 1).send(0, sig), 1);
        }
    }

    private static void standardAndRealTime() {
        checks.sentence("Standard signals are 1..15 and real-time signals are 16..31.");
        for (int sig = 1; sig <= 31; sig++) {
            if (sig == 9) {
                continue;
            }
            boolean standard = sig <= 15;
            SignalKernel x = Checks.spinning(1, 1);
            checks.due("send(0, " + sig + ")", x.send(0, sig), 1);
            checks.due("send(0, " + sig + ") again", x.send(0, sig), standard ? 0 : 2);
            checks.due("pendingSerial(0, " + sig + ")", x.pendingSerial(0, sig), standard ? 1 : 0);
            checks.due("reg(0, R_QUEUED)", x.reg(0, R_QUEUED), standard ? 0 : 2);
        }
    }

    private static void bitOfASignal() {
        checks.sentence("The bit of signal s is (1 << s).");
        for (int sig = 1; sig <= 31; sig++) {
            if (sig == 9) {
                continue;
            }
            SignalKernel x = Checks.spinning(1, 1);
            x.send(0, sig);
            checks.due("R_PENDING after send(0, " + sig + ")", x.reg(0, R_PENDING), 1 << sig);
        }
        checks.due("the greatest signal has the sign bit", 1 << 31, LEAST);
    }

    private static void bitZero() {
        checks.sentence("Bit 0 is never used.");
        // 1 << 32 is 1 in Java, so a signal too great by one would land in bit 0.
        int[] wouldUseIt = {0, 32, -32, 64};
        for (int sig : wouldUseIt) {
            SignalKernel x = Scenes.masked(-1);
            x.send(0, sig);
            checks.due("R_PENDING after send(0, " + sig + ")", x.reg(0, R_PENDING), 0);
        }
        SignalKernel x = Scenes.masked(-1);
        for (int sig = 0; sig <= 15; sig++) {
            if (sig != 9 && sig != 14) {
                x.send(0, sig);
            }
        }
        checks.due("R_PENDING with all that can be pending at once", x.reg(0, R_PENDING), 0xbdfe);
        checks.due("R_MASK", x.reg(0, R_MASK) & 1, 0);
    }

    private static void setBitBlocks() {
        checks.sentence("Bit s set means s is blocked.");
        for (int sig = 1; sig <= 31; sig++) {
            if (sig == 9 || sig == 15) {
                continue;
            }
            checks.due(sig + " under its own bit", eventsUnder(1 << sig, sig), 0);
            checks.due(sig + " under every other bit", eventsUnder(~(1 << sig), sig), 1);
        }
    }

    private static int eventsUnder(int mask, int sig) {
        SignalKernel x = Scenes.masked(mask);
        x.send(0, sig);
        x.run(1);
        return x.logTotal();
    }

    private static void fixedMaskBits() {
        checks.sentence("Bits 0, 9 and 15 of a mask are always 0: every mask write clears them after computing the new value.");
        for (int bit = 0; bit < 32; bit++) {
            int wanted = bit == 0 || bit == 9 || bit == 15 ? 0 : 1 << bit;
            SignalKernel x = Scenes.after(2, LDA, 1 << bit, MASK, 0);
            checks.due("MASK 0 of bit " + bit, x.reg(0, R_MASK), wanted);
            x = Scenes.after(2, LDA, 1 << bit, MASK, 2);
            checks.due("MASK 2 of bit " + bit, x.reg(0, R_MASK), wanted);
            x = Scenes.after(4, LDA, -1, MASK, 2, LDA, 1 << bit, MASK, 1);
            checks.due("MASK 1 of bit " + bit, x.reg(0, R_MASK), ~(UNBLOCKABLE | 1 << bit));
        }
        fixedMaskBitsInHandlers();
    }

    private static void fixedMaskBitsInHandlers() {
        for (int sig = 1; sig <= 31; sig++) {
            if (sig == 9 || sig == 15) {
                continue;
            }
            SignalKernel x = Scenes.masked(~(1 << sig));
            x.setAction(0, sig, 8, 0);
            x.poke(0, 8, SIGRET, 0);
            x.send(0, sig);
            x.run(1);
            checks.due("R_MASK in the handler of " + sig, x.reg(0, R_MASK), ~UNBLOCKABLE);
            checks.due("the saved mask", x.frame(0, 0, 3), ~(UNBLOCKABLE | 1 << sig));
            x.run(1);
            checks.due("R_MASK after SIGRET", x.reg(0, R_MASK), ~(UNBLOCKABLE | 1 << sig));
        }
    }

    private static SignalKernel delivered(int sig) {
        SignalKernel x = Checks.spinning(1, 1);
        x.send(0, sig);
        x.run(1);
        return x;
    }

    private static void defaultTerminate() {
        checks.sentence("1..11 and 16..31 terminate.");
        for (int sig = 1; sig <= 31; sig++) {
            boolean terminates = sig <= 11 || sig >= 16;
            checks.due("killed by " + sig, delivered(sig).state(0) == KILLED ? 1 : 0, terminates ? 1 : 0);
        }
    }

    private static void defaultStop() {
        checks.sentence("12 (TSTP) and 15 (STOP) stop.");
        for (int sig = 1; sig <= 31; sig++) {
            checks.due("stopped by " + sig, delivered(sig).state(0) == STOPPED ? 1 : 0, sig == 12 || sig == 15 ? 1 : 0);
        }
    }

    private static void defaultIgnore() {
        checks.sentence("13 (CHLD) and 14 (CONT) are ignored.");
        for (int sig = 1; sig <= 31; sig++) {
            SignalKernel x = delivered(sig);
            checks.due("running after " + sig, x.state(0) == RUNNING ? 1 : 0, sig == 13 || sig == 14 ? 1 : 0);
            checks.due("EV_IGNORE for " + sig, x.logField(0, 0) == EV_IGNORE ? 1 : 0, sig == 13 || sig == 14 ? 1 : 0);
        }
    }

    private static void killActsAtSendTime() {
        checks.sentence("Signal 9 (KILL) acts at send time.");
        for (int pid = 0; pid < 3; pid++) {
            SignalKernel x = Scenes.busy(false);
            int events = x.logTotal();
            int serial = x.send(pid, 9);
            checks.due("state(" + pid + ")", x.state(pid), KILLED);
            checks.due("logTotal()", x.logTotal(), events + 1);
            checks.lastEvent(x, EV_TERM, pid, 9, serial);
        }
        SignalKernel x = Checks.spinning(1, 1);
        x.send(0, 8);
        x.send(0, 10);
        checks.due("8 and 10 wait for a step", x.state(0), RUNNING);
    }

    private static void neverCaughtIgnoredOrBlocked() {
        checks.sentence("Signals 9 and 15 can never be caught, ignored or blocked.");
        int[] handlers = {H_DFL, H_IGN, 0, 31};
        for (int sig = 8; sig <= 16; sig++) {
            boolean fixed = sig == 9 || sig == 15;
            for (int handler : handlers) {
                SignalKernel x = Scenes.masked(-1);
                checks.due("setAction(0, " + sig + ", " + handler + ", 0)", x.setAction(0, sig, handler, 0), fixed ? EINVAL : H_DFL);
                x.send(0, sig);
                x.run(1);
                checks.due(sig + " acts", x.logTotal(), fixed ? 1 : 0);
                checks.due("state(0) after " + sig, x.state(0), sig == 9 ? KILLED : sig == 15 ? STOPPED : RUNNING);
            }
        }
    }

    private static void oneCounter() {
        checks.sentence("Serials: the kernel has one serial counter.");
        SignalKernel x = Checks.spinning(4, 1);
        SignalKernel other = Checks.spinning(4, 1);
        int serial = 0;
        for (int sig = 1; sig <= 31; sig++) {
            for (int pid = 0; pid < 4; pid++) {
                if (sig != 9 && sig != 12 && sig < 24) {
                    serial++;
                    checks.due("send(" + pid + ", " + sig + ")", x.send(pid, sig), serial);
                }
            }
        }
        checks.due("another kernel has its own", other.send(3, 31), 1);
    }

    private static void serials() {
        checks.sentence("The first serial issued is 1, and each new one is the last plus 1.");
        SignalKernel x = Checks.spinning(4, 1);
        x.poke(3, 0, KILL, 31);
        checks.due("the first", x.send(3, 13), 1);
        checks.due("coalesced", x.send(3, 13), 0);
        checks.due("refused", x.send(4, 13), ESRCH);
        checks.due("refused", x.send(3, 32), EINVAL);
        checks.due("the next, of another process", x.send(0, 16), 2);
        checks.due("the next, of a standard signal", x.send(1, 15), 3);
        checks.due("the next, of KILL", x.send(1, 9), 4);
        x.run(2);
        checks.due("OP_KILL of the dead is refused", x.reg(3, R_A), ESRCH);
        checks.due("and takes no serial", x.send(2, 16), 5);
        for (int i = 6; i <= 300; i++) {
            x.setAction(2, 16, H_IGN, 0);
            x.run(1);
            checks.due("serial " + i, x.send(2, 16), i);
        }
        manySerials();
        x = Scenes.after(1, KILL, 13, KILL, 16);
        checks.due("the first, of OP_KILL", x.reg(0, R_A), 1);
        checks.due("and the next from outside", x.send(0, 14), 2);
    }

    /** As many as would not fit into fewer bits than an int has. */
    private static void manySerials() {
        SignalKernel x = Checks.spinning(1, 1);
        x.setAction(0, 31, H_IGN, 0);
        for (int i = 1; i < 70000; i += 2) {
            checks.due("serial " + i, x.send(0, 13), i);
            checks.due("serial " + (i + 1), x.send(0, 31), i + 1);
            checks.due("as the pending instance's", x.pendingSerial(0, 13), i);
            checks.due("as the entry's", x.queued(0, 0, 1), i + 1);
            x.run(2);
        }
        x.setAction(0, 1, 5, 0);
        checks.due("the next", x.send(0, 1), 70001);
        x.run(1);
        checks.registers(x, 0, 5, 1, 70001);
        checks.due("logTotal()", x.logTotal(), 70001);
    }

    private static void loggingIssuesNoSerial() {
        checks.sentence("The events listed in the promises below go into a global event log; logging an event never issues a serial.");
        SignalKernel x = Checks.spinning(4, 1);
        Checks.load(x, 1, 0, OUT, 0, HALT, 0);
        Checks.load(x, 2, 0, JMP, 32);
        x.setAction(3, 20, 0, 0);
        x.send(0, 13);
        x.send(3, 20);
        x.run(2);
        checks.due("IGNORE, OUT, HANDLER, EXIT and a bad PC's TERM are logged", x.logTotal(), 5);
        checks.due("the next serial", x.send(0, 15), 3);
        x.run(1);
        checks.due("after STOP", x.send(0, 14), 4);
        checks.lastEvent(x, EV_CONT, 0, 14, 4);
        checks.due("after CONT", x.send(0, 1), 5);
        x.run(1);
        checks.lastEvent(x, EV_TERM, 0, 1, 5);
        checks.due("after TERM", x.send(3, 9), 6);
    }

    private static void storedEvents() {
        checks.sentence("Only the first 128 events are stored, but all events are counted.");
        int[] totals = {0, 1, 127, 128, 129, 130, 256, 257};
        for (int total : totals) {
            SignalKernel x = Scenes.logged(total);
            checks.due("logTotal()", x.logTotal(), total);
            for (int i = 0; i < 260; i++) {
                checks.due(total + " logged: logField(" + i + ", 2)", x.logField(i, 2), i < total && i < 128 ? i + 1 : 0);
            }
        }
    }

    /**
     * One of four, a handler deep and with signals held back, about to die: its next step halts.
     * The others hold the same signals back and spin.
     */
    private static SignalKernel aboutToHalt(int pid) {
        SignalKernel x = new SignalKernel(4, 1);
        for (int other = 0; other < 4; other++) {
            Checks.load(x, other, 0, LDA, -1, MASK, 2, JMP, 2);
        }
        Checks.load(x, pid, 0, LDA, 7, LDB, 8, JMP, 2);
        Checks.load(x, pid, 8, LDA, -1, MASK, 2, LDA, 5, HALT, 0);
        x.setAction(pid, 4, 8, RESTART);
        x.run(2);
        x.send(pid, 4);
        x.run(4);
        for (int of = 0; of < 4; of++) {
            for (int sig = 1; sig <= 13; sig++) {
                if (sig != 9) {
                    x.send(of, sig);
                }
            }
            for (int i = 0; i < 8; i++) {
                x.send(of, 16 + i);
            }
        }
        return x;
    }

    /** The same, but asleep and stopped, about to be killed, and each has its 15 pending too. */
    private static SignalKernel aboutToBeKilled(int pid) {
        SignalKernel x = aboutToHalt(pid);
        x.poke(pid, 11, SLEEP, 9);
        x.run(2);
        x.send(pid, 15);
        x.run(1);
        for (int of = 0; of < 4; of++) {
            x.send(of, 15);
        }
        return x;
    }

    /** The same, but deep already when one more handler is due. */
    private static SignalKernel aboutToSinkTooDeep(int pid) {
        SignalKernel x = aboutToHalt(pid);
        Checks.load(x, pid, 11, LDA, 1 << 7, MASK, 1);
        x.setAction(pid, 7, 8, 0);
        x.run(2);
        return x;
    }

    /** The same, but with a default action due. */
    private static SignalKernel aboutToBeTerminated(int pid) {
        SignalKernel x = aboutToSinkTooDeep(pid);
        x.setAction(pid, 7, H_DFL, 0);
        return x;
    }

    /** The same, but with its PC outside the code. */
    private static SignalKernel aboutToGetLost(int pid) {
        SignalKernel x = aboutToHalt(pid);
        x.poke(pid, 11, JMP, 32);
        x.run(1);
        return x;
    }

    private interface Death {
        void check(String how, int pid, SignalKernel before, SignalKernel after);
    }

    private static void everyDeath(Death death) {
        for (int pid = 0; pid < 4; pid++) {
            oneDeath("HALT", pid, EdgesHeadTest::aboutToHalt, death);
            oneDeath("too deep", pid, EdgesHeadTest::aboutToSinkTooDeep, death);
            oneDeath("a default action", pid, EdgesHeadTest::aboutToBeTerminated, death);
            oneDeath("a bad PC", pid, EdgesHeadTest::aboutToGetLost, death);
            SignalKernel x = aboutToBeKilled(pid);
            x.send(pid, 9);
            death.check("KILL", pid, aboutToBeKilled(pid), x);
        }
    }

    private static void oneDeath(String how, int pid, IntFunction<SignalKernel> scene, Death death) {
        SignalKernel x = scene.apply(pid);
        x.run(1);
        death.check(how, pid, scene.apply(pid), x);
    }

    private static void dyingSetsStateAndStatus() {
        checks.sentence("sets the state and status;");
        everyDeath((how, pid, before, after) -> {
            checks.due(how + ": alive before", before.state(pid) == EXITED || before.state(pid) == KILLED ? 1 : 0, 0);
            checks.due(how + ": no status before", before.reg(pid, R_STATUS), 0);
            checks.due(how + ": state(" + pid + ")", after.state(pid), how.equals("HALT") ? EXITED : KILLED);
            int status = how.equals("HALT") ? 5 : how.equals("KILL") ? 9 : how.equals("a default action") ? 7 : 11;
            checks.due(how + ": R_STATUS", after.reg(pid, R_STATUS), status);
            checks.othersAlike(how, pid, after, before);
        });
    }

    private static void dyingClearsPending() {
        checks.sentence("clears the pending set together with its serials;");
        everyDeath((how, pid, before, after) -> {
            checks.due(how + ": 12 are pending before", Integer.bitCount(before.reg(pid, R_PENDING) & 0x3fff), 12);
            checks.due(how + ": R_PENDING", after.reg(pid, R_PENDING), 0);
            for (int sig = 1; sig <= 15; sig++) {
                checks.due(how + ": pendingSerial(" + pid + ", " + sig + ")", after.pendingSerial(pid, sig), 0);
            }
        });
    }

    private static void dyingEmptiesTheQueue() {
        checks.sentence("empties the queue;");
        everyDeath((how, pid, before, after) -> {
            checks.due(how + ": R_QUEUED before", before.reg(pid, R_QUEUED), 8);
            checks.due(how + ": R_QUEUED", after.reg(pid, R_QUEUED), 0);
            for (int i = 0; i < 16; i++) {
                checks.due(how + ": queued(" + pid + ", " + i / 2 + ", " + i % 2 + ")", after.queued(pid, i / 2, i % 2), 0);
            }
        });
    }

    private static void dyingEndsSleepAndStop() {
        checks.sentence("sets sleep-left to 0 and the stopped flag to false.");
        everyDeath((how, pid, before, after) -> {
            checks.due(how + ": R_SLEEP before", before.reg(pid, R_SLEEP), how.equals("KILL") ? 8 : 0);
            checks.due(how + ": stopped before", before.state(pid) == STOPPED ? 1 : 0, how.equals("KILL") ? 1 : 0);
            checks.due(how + ": R_SLEEP", after.reg(pid, R_SLEEP), 0);
            checks.due(how + ": the state is no longer STOPPED", after.state(pid) == STOPPED ? 1 : 0, 0);
        });
        sleepEndsInADelivery();
    }

    private static void sleepEndsInADelivery() {
        SignalKernel x = Scenes.after(1, SLEEP, 9);
        checks.due("R_SLEEP before", x.reg(0, R_SLEEP), 9);
        x.send(0, 1);
        x.run(1);
        checks.due("R_SLEEP after a default action", x.reg(0, R_SLEEP), 0);
        x = Scenes.deep(2, 2);
        x.poke(0, 0, SLEEP, 9);
        x.run(1);
        checks.due("R_SLEEP before", x.reg(0, R_SLEEP), 9);
        x.send(0, 1);
        x.run(1);
        checks.due("R_SLEEP after one handler too many", x.reg(0, R_SLEEP), 0);
    }

    private static void dyingKeepsTheRest() {
        checks.sentence("Registers, depth and frames stay as they are.");
        everyDeath((how, pid, before, after) -> {
            for (int which = R_PC; which <= R_DEPTH; which++) {
                checks.due(how + ": reg(" + pid + ", " + which + ")", after.reg(pid, which), before.reg(pid, which));
            }
            checks.due(how + ": R_DEPTH", after.reg(pid, R_DEPTH), 1);
            checks.frameOf(after, pid, 0, 2, 7, 8, 0);
        });
    }
}
