/** The edges that promise 5 names of a delivery, a test for each sentence. */
public final class Edges05DeliveryTest implements Numbers {
    private static final int HANDLER = 20;
    private static final Checks checks = new Checks("Edges05DeliveryTest");

    public static void main(String[] args) {
        deliverable();
        oneDelivery();
        lowestStandard();
        earliestEntry();
        removedFirst();
        ignoring();
        stopping();
        stoppingKeepsSleep();
        terminating();
        atTheGreatestDepth();
        belowTheGreatestDepth();
        savedContext();
        sleepIsBroken();
        interruptedSleep();
        pushedFrame();
        depthAndStackPointer();
        deferring();
        handlerRegisters();
        resetting();
        handlerIsLogged();
        checks.finish();
    }

    private static boolean fixed(int sig) {
        return sig == 9 || sig == 15;
    }

    private static void deliverable() {
        checks.sentence("whose bit is not in MASK.");
        for (int sig = 1; sig <= 31; sig++) {
            for (int bit = 0; bit <= 31; bit++) {
                SignalKernel x = Scenes.masked(1 << bit);
                x.send(0, sig);
                x.run(1);
                boolean held = bit == sig && !fixed(sig);
                checks.due(sig + " under bit " + bit, x.logTotal(), held ? 0 : 1);
                checks.due("R_PENDING", x.reg(0, R_PENDING), held ? 1 << sig : 0);
            }
        }
    }

    private static void oneDelivery() {
        checks.sentence("If any exist, one delivery takes place and the step ends.");
        SignalKernel x = Scenes.after(0, LDA, 9, LDA, 8, LDA, 7);
        x.run(1);
        checks.due("with none, the instruction runs", x.reg(0, R_A), 9);
        for (int sig = 16; sig < 24; sig++) {
            x.setAction(0, sig, H_IGN, 0);
            x.send(0, sig);
        }
        x.send(0, 13);
        for (int i = 1; i <= 9; i++) {
            checks.due("run(1)", x.run(1), 1);
            checks.due("deliveries", x.logTotal(), i);
            checks.registers(x, 0, 1, 9, 0);
        }
        x.run(1);
        checks.registers(x, 0, 2, 8, 0);
        x.setAction(0, 16, HANDLER, 0);
        x.send(0, 16);
        x.run(1);
        checks.registers(x, 0, HANDLER, 16, 10);
    }

    private static void lowestStandard() {
        checks.sentence("The signal taken is the lowest deliverable standard signal.");
        for (int low = 1; low <= 15; low++) {
            for (int high = low + 1; high <= 16; high++) {
                if (low == 9 || high == 9 || low == 14 && high == 15 || low == 12 && high == 14) {
                    continue;
                }
                SignalKernel x = Checks.spinning(1, 1);
                x.send(0, high);
                x.send(0, low);
                x.run(1);
                checks.due("of " + low + " and " + high, x.logField(0, 2), low);
                checks.due("with its serial", x.logField(0, 3), 2);
            }
        }
        SignalKernel x = Scenes.masked(1 << 1 | 1 << 2);
        x.send(0, 3);
        x.send(0, 2);
        x.send(0, 1);
        x.run(1);
        checks.due("the lowest that is not blocked", x.logField(0, 2), 3);
    }

    /** One of four ignores every real-time signal and blocks those of the mask; the others' queues are full. */
    private static SignalKernel ignoring(int pid, int mask) {
        SignalKernel x = Checks.spinning(4, 1);
        for (int other = 0; other < 4; other++) {
            Checks.load(x, other, 0, LDA, other == pid ? mask : -1, MASK, 2, JMP, 2);
        }
        x.run(3);
        for (int sig = 16; sig <= 31; sig++) {
            x.setAction(pid, sig, H_IGN, 0);
        }
        for (int i = 0; i < 32; i++) {
            if (i % 4 != pid) {
                x.send(i % 4, 16 + i / 2);
            }
        }
        return x;
    }

    private static void earliestEntry() {
        checks.sentence("If there is none, it is the earliest deliverable queue entry, and later entries move forward.");
        for (int pid = 0; pid < 4; pid++) {
            for (int entries = 1; entries <= 8; entries++) {
                // All entries but the one at this index are blocked; at the last index of the loop, all are.
                for (int open = 0; open <= entries; open++) {
                    oneOpenEntry(pid, entries, open);
                }
            }
        }
        SignalKernel x = ignoring(2, 1 << 1);
        x.send(2, 31);
        x.send(2, 16);
        x.send(2, 1);
        x.run(1);
        checks.due("a blocked standard signal gives way, and the earlier entry is taken, not the lower", x.logField(0, 2), 31);
    }

    private static void oneOpenEntry(int pid, int entries, int open) {
        SignalKernel x = ignoring(pid, 1 << 31);
        for (int i = 0; i < entries; i++) {
            checks.due("a serial after the others' 24", x.send(pid, i == open ? 16 : 31), 25 + i);
        }
        boolean any = open < entries;
        x.run(2);
        checks.due("deliveries", x.logTotal(), any ? 1 : 0);
        checks.due("the serial taken", x.logField(0, 3), any ? 25 + open : 0);
        int left = any ? entries - 1 : entries;
        checks.due("R_QUEUED", x.reg(pid, R_QUEUED), left);
        for (int i = 0; i < 8; i++) {
            checks.due("queued(" + pid + ", " + i + ", 0)", x.queued(pid, i, 0), i < left ? 31 : 0);
            checks.due("queued(" + pid + ", " + i + ", 1)", x.queued(pid, i, 1), i >= left ? 0 : i < open ? 25 + i : 26 + i);
        }
        checks.othersAlike("a delivery from a queue", pid, x, ignoring(pid, 1 << 31));
    }

    private static void removedFirst() {
        checks.sentence("The taken signal sig with serial s is removed first.");
        for (int sig = 1; sig <= 31; sig++) {
            if (fixed(sig)) {
                continue;
            }
            SignalKernel x = Checks.spinning(1, 1);
            x.setAction(0, sig, 0, NODEFER);
            x.send(0, sig);
            x.run(1);
            checks.due("R_PENDING", x.reg(0, R_PENDING), 0);
            checks.due("R_QUEUED", x.reg(0, R_QUEUED), 0);
            checks.due("pendingSerial(0, " + sig + ")", x.pendingSerial(0, sig), 0);
            checks.due("not delivered a second time", x.run(3) + x.logTotal(), 3 + 1);
        }
        int[] stops = {12, 15};
        for (int stop : stops) {
            checks.due("R_PENDING of one stopped by " + stop, Scenes.stopped(stop).reg(0, R_PENDING), 0);
            checks.due("send(0, " + stop + ") is new", Scenes.stopped(stop).send(0, stop), 2);
        }
    }

    private static void ignoring() {
        checks.sentence("**H_IGN, or H_DFL with default ignore:** log (EV_IGNORE, p, sig, s).");
        for (int sig = 1; sig <= 31; sig++) {
            for (int handler = H_IGN; handler <= H_DFL; handler++) {
                boolean ignored = !fixed(sig) && handler == H_IGN || sig == 13 || sig == 14;
                if (!ignored) {
                    continue;
                }
                SignalKernel x = Scenes.deep(1, 1);
                x.setAction(0, sig, handler, 7);
                x.send(0, sig);
                long[] before = Checks.view(x);
                x.run(1);
                checks.due("state(0)", x.state(0), RUNNING);
                checks.due("logTotal()", x.logTotal(), 2);
                checks.event(x, 1, EV_IGNORE, 0, sig, 2);
                for (int which = R_PC; which <= R_SLEEP; which++) {
                    checks.due("reg(0, " + which + ")", x.reg(0, which), before[1 + which]);
                }
                checks.due("the disposition stays", x.getAction(0, sig, 0), handler);
                checks.due("and its flags", x.getAction(0, sig, 1), 7);
            }
        }
    }

    private static void stopping() {
        checks.sentence("**H_DFL with default stop:** set the stopped flag and log (EV_STOP, p, sig, s).");
        int[] stops = {12, 15};
        for (int stop : stops) {
            SignalKernel x = Scenes.deep(1, 1);
            x.send(0, stop);
            checks.due("not yet", x.state(0), RUNNING);
            x.run(1);
            checks.due("state(0)", x.state(0), STOPPED);
            checks.due("logTotal()", x.logTotal(), 2);
            checks.event(x, 1, EV_STOP, 0, stop, 2);
            checks.registers(x, 0, 0, 1, 1);
        }
        SignalKernel x = Checks.spinning(1, 1);
        x.setAction(0, 12, HANDLER, 0);
        x.send(0, 12);
        x.run(1);
        checks.due("12 with a handler does not stop", x.state(0), RUNNING);
        checks.event(x, 0, EV_HANDLER, 0, 12, 1);
        x = Checks.spinning(1, 1);
        x.setAction(0, 12, H_IGN, 0);
        x.send(0, 12);
        x.run(1);
        checks.due("12 with H_IGN does not stop", x.state(0), RUNNING);
    }

    private static void stoppingKeepsSleep() {
        checks.sentence("Sleep-left is kept.");
        int[] lengths = {1, 2, GREATEST};
        for (int k : lengths) {
            SignalKernel x = Scenes.after(1, SLEEP, k);
            x.send(0, 12);
            x.run(1);
            checks.due("state(0)", x.state(0), STOPPED);
            checks.due("R_SLEEP", x.reg(0, R_SLEEP), k);
            x.run(64);
            checks.due("R_SLEEP after rounds of standing still", x.reg(0, R_SLEEP), k);
            x.send(0, 14);
            checks.due("state(0)", x.state(0), SLEEPING);
            x.run(2);
            checks.due("R_SLEEP one step after 14 is ignored", x.reg(0, R_SLEEP), k - 1);
        }
        checks.due("R_SLEEP of one that did not sleep", Scenes.stopped(15).reg(0, R_SLEEP), 0);
    }

    private static void terminating() {
        checks.sentence("**H_DFL with default terminate:** p dies KILLED with status sig, and the kernel logs (EV_TERM, p, sig, s).");
        for (int sig = 1; sig <= 31; sig++) {
            if (sig == 9 || sig >= 12 && sig <= 15) {
                continue;
            }
            SignalKernel x = Scenes.deep(1, 1);
            x.setAction(0, sig, H_DFL, 7);
            x.send(0, sig);
            checks.due("run(2)", x.run(2), 1);
            checks.due("state(0)", x.state(0), KILLED);
            checks.due("R_STATUS", x.reg(0, R_STATUS), sig);
            checks.due("logTotal()", x.logTotal(), 2);
            checks.event(x, 1, EV_TERM, 0, sig, 2);
        }
    }

    private static void atTheGreatestDepth() {
        checks.sentence("**A handler h with flags f, when depth == D:** p dies KILLED with status 11, and the kernel logs (EV_TERM, p, 11, s).");
        for (int most = 1; most <= 4; most++) {
            for (int flags = 0; flags <= 7; flags++) {
                SignalKernel x = Scenes.deep(most, most);
                x.setAction(0, 31, HANDLER, flags);
                int serial = x.send(0, 31);
                checks.due("the serial", serial, most + 1);
                checks.due("run(1)", x.run(1), 1);
                checks.due("state(0)", x.state(0), KILLED);
                checks.due("R_STATUS", x.reg(0, R_STATUS), 11);
                checks.due("R_DEPTH", x.reg(0, R_DEPTH), most);
                checks.due("R_SP", x.reg(0, R_SP), 64 - 4 * most);
                checks.due("R_MASK", x.reg(0, R_MASK), 0);
                checks.registers(x, 0, 0, 1, most);
                checks.due("logTotal()", x.logTotal(), most + 1);
                checks.lastEvent(x, EV_TERM, 0, 11, serial);
                checks.due("the disposition stays", x.getAction(0, 31, 0), HANDLER);
                checks.due("and its flags", x.getAction(0, 31, 1), flags);
            }
        }
    }

    private static void belowTheGreatestDepth() {
        checks.sentence("**A handler h with flags f, when depth < D:**");
        for (int most = 1; most <= 4; most++) {
            for (int depth = 0; depth < most; depth++) {
                SignalKernel x = Scenes.deep(most, depth);
                x.setAction(0, 31, HANDLER, 0);
                x.send(0, 31);
                x.run(1);
                checks.due("state(0)", x.state(0), RUNNING);
                checks.due("R_DEPTH", x.reg(0, R_DEPTH), depth + 1);
                checks.lastEvent(x, EV_HANDLER, 0, 31, depth + 1);
            }
        }
        SignalKernel x = Scenes.deep(1, 1);
        x.poke(0, 0, SIGRET, 0);
        x.run(1);
        x.send(0, 1);
        x.run(1);
        checks.due("a frame given back can be used again", x.reg(0, R_DEPTH), 1);
    }

    private static void savedContext() {
        checks.sentence("The saved pc is PC and the saved A is A.");
        int[] values = {LEAST, -1, 0, 31, 32, GREATEST};
        for (int pc : values) {
            for (int a : values) {
                SignalKernel x = Scenes.after(2, LDA, a, JMP, pc);
                x.setAction(0, 3, HANDLER, 0);
                x.send(0, 3);
                x.run(1);
                checks.due("saved pc", x.frame(0, 0, 0), pc);
                checks.due("saved A", x.frame(0, 0, 1), a);
            }
        }
    }

    /** Process 0 of one, with A = 5 and B = 6, sleeps at this cell; signal 3 has a handler with these flags. */
    private static SignalKernel asleepAt(int addr, int k, int flags) {
        SignalKernel x = new SignalKernel(1, 2);
        Checks.load(x, 0, 8, LDA, 5, LDB, 6, JMP, addr);
        x.poke(0, 0, JMP, 8);
        x.run(1);
        x.poke(0, addr, SLEEP, k);
        x.poke(0, HANDLER, SIGRET, 0);
        x.setAction(0, 3, HANDLER, flags);
        x.run(4);
        return x;
    }

    private static void sleepIsBroken() {
        checks.sentence("If sleep-left > 0, then sleep-left becomes 0.");
        int[] lengths = {1, 2, GREATEST};
        for (int k : lengths) {
            for (int flags = 0; flags <= 7; flags++) {
                SignalKernel x = asleepAt(0, k, flags);
                checks.due("R_SLEEP before", x.reg(0, R_SLEEP), k);
                x.send(0, 3);
                checks.due("R_SLEEP while it is pending", x.reg(0, R_SLEEP), k);
                x.run(1);
                checks.due("R_SLEEP in the handler", x.reg(0, R_SLEEP), 0);
                checks.due("state(0)", x.state(0), RUNNING);
            }
        }
    }

    private static void interruptedSleep() {
        checks.sentence("In that case, if (f & SA_RESTART) == 0, the saved pc is PC+1 (int arithmetic) and the saved A is EINTR.");
        int[] lengths = {1, 2, GREATEST};
        for (int k : lengths) {
            for (int flags = 0; flags <= 7; flags++) {
                interruptedIn(0, k, flags);
                interruptedIn(31, k, flags);
            }
        }
        notInterruptedWhenAwake();
    }

    private static void interruptedIn(int addr, int k, int flags) {
        boolean restart = (flags & RESTART) != 0;
        SignalKernel x = asleepAt(addr, k, flags);
        checks.due("R_SLEEP before", x.reg(0, R_SLEEP), k);
        x.send(0, 3);
        x.run(1);
        checks.frame(x, 0, restart ? addr : addr + 1, restart ? 5 : EINTR, 6, 0);
        x.run(1);
        checks.registers(x, 0, restart ? addr : addr + 1, restart ? 5 : EINTR, 6);
        x.run(1);
        checks.due("flags " + flags + ": sleep again", x.reg(0, R_SLEEP), restart ? k : 0);
        checks.due("flags " + flags + ": state(0) after the sleep in cell " + addr, x.state(0),
            restart ? SLEEPING : addr == 31 ? KILLED : EXITED);
    }

    private static void notInterruptedWhenAwake() {
        for (int flags = 0; flags <= 7; flags++) {
            SignalKernel x = asleepAt(0, 1, flags);
            x.poke(0, 1, JMP, 1);
            x.run(1);
            x.send(0, 3);
            x.run(1);
            checks.frame(x, 0, 1, 0, 6, 0);
            x = asleepAt(0, 4, flags);
            x.send(0, 13);
            x.run(1);
            checks.due("an ignored signal breaks no sleep", x.reg(0, R_SLEEP), 4);
        }
    }

    private static void pushedFrame() {
        checks.sentence("Push frame (saved pc, saved A, B, MASK) at index depth.");
        for (int depth = 0; depth <= 4; depth++) {
            SignalKernel x = Scenes.nested(depth);
            for (int pid = 0; pid < 4; pid++) {
                for (int level = 0; level < 4; level++) {
                    if (level < depth) {
                        checks.frameOf(x, pid, level, 4 * level + 2, 40 * pid + level, -40 * pid - level, ((1 << level) - 1) << 28);
                    } else {
                        checks.frameOf(x, pid, level, 0, 0, 0, 0);
                    }
                }
            }
        }
    }

    private static void depthAndStackPointer() {
        checks.sentence("Then depth += 1 and SP -= 4.");
        for (int depth = 0; depth <= 4; depth++) {
            SignalKernel x = Scenes.deep(4, depth);
            checks.due("R_DEPTH", x.reg(0, R_DEPTH), depth);
            checks.due("R_SP", x.reg(0, R_SP), 64 - 4 * depth);
        }
        checks.due("R_SP where a fifth was due", Scenes.deep(4, 5).reg(0, R_SP), 48);
    }

    private static void deferring() {
        checks.sentence("If (f & SA_NODEFER) == 0, then MASK |= bit of sig, with bits 0, 9 and 15 cleared afterwards.");
        for (int sig = 1; sig <= 31; sig++) {
            if (fixed(sig)) {
                continue;
            }
            for (int flags = 0; flags <= 7; flags++) {
                int mask = 1 << (sig == 31 ? 30 : 31);
                SignalKernel x = Scenes.masked(mask);
                x.setAction(0, sig, 2, flags);
                x.send(0, sig);
                x.run(1);
                boolean nodefer = (flags & NODEFER) != 0;
                checks.due("flags " + flags + ": R_MASK in the handler of " + sig, x.reg(0, R_MASK), nodefer ? mask : mask | 1 << sig);
                checks.due("the saved mask", x.frame(0, 0, 3), mask);
                x.setAction(0, sig, 2, flags);
                x.send(0, sig);
                x.run(1);
                checks.due("flags " + flags + ": R_DEPTH after " + sig + " again", x.reg(0, R_DEPTH), nodefer ? 2 : 1);
            }
        }
    }

    private static void handlerRegisters() {
        checks.sentence("A = sig, B = s and PC = h.");
        for (int sig = 1; sig <= 31; sig++) {
            if (fixed(sig)) {
                continue;
            }
            for (int handler = 0; handler <= 31; handler++) {
                SignalKernel x = Scenes.after(3, LDA, -5, LDB, -6, JMP, 2);
                x.setAction(0, sig, handler, 0);
                x.send(0, sig);
                x.run(1);
                checks.registers(x, 0, handler, sig, 1);
            }
        }
    }

    private static void resetting() {
        checks.sentence("If (f & SA_RESETHAND) != 0, the disposition becomes (H_DFL, 0).");
        int[] signals = {1, 14, 16, 31};
        for (int sig : signals) {
            for (int flags = 0; flags <= 7; flags++) {
                SignalKernel x = Checks.spinning(4, 1);
                for (int pid = 0; pid < 4; pid++) {
                    x.setAction(pid, sig, HANDLER, flags);
                    x.setAction(pid, sig == 31 ? 30 : sig + 2, HANDLER, flags);
                }
                x.send(3, sig);
                x.run(1);
                boolean reset = (flags & RESETHAND) != 0;
                checks.due("R_PC", x.reg(3, R_PC), HANDLER);
                for (int pid = 0; pid < 4; pid++) {
                    boolean own = reset && pid == 3;
                    checks.due("getAction(" + pid + ", " + sig + ", 0)", x.getAction(pid, sig, 0), own ? H_DFL : HANDLER);
                    checks.due("getAction(" + pid + ", " + sig + ", 1)", x.getAction(pid, sig, 1), own ? 0 : flags);
                    checks.due("another signal's handler", x.getAction(pid, sig == 31 ? 30 : sig + 2, 0), HANDLER);
                }
            }
        }
    }

    private static void handlerIsLogged() {
        checks.sentence("Log (EV_HANDLER, p, sig, s).");
        for (int pid = 0; pid < 4; pid++) {
            for (int sig = 1; sig <= 31; sig++) {
                if (fixed(sig)) {
                    continue;
                }
                SignalKernel x = Checks.spinning(4, 1);
                x.setAction(pid, sig, HANDLER, RESETHAND);
                x.send(pid, sig);
                x.run(1);
                checks.due("logTotal()", x.logTotal(), 1);
                checks.event(x, 0, EV_HANDLER, pid, sig, 1);
            }
        }
    }
}
