/** The edges that promise 4 names, a test for each sentence. */
public final class Edges04Test implements Numbers {
    private static final Checks checks = new Checks("Edges04Test");

    public static void main(String[] args) {
        opKillIsTheSame();
        orderAndRefusals();
        signals();
        targets();
        fullQueue();
        kill();
        stopsDropCont();
        contDropsStopsAndResumes();
        nothingElseResumes();
        coalescing();
        newStandardSignal();
        newRealTimeSignal();
        resumeIsLogged();
        sendKeepsRegisters();
        sendKeepsSleepLeft();
        blockingRefusesNothing();
        checks.finish();
    }

    private static void opKillIsTheSame() {
        checks.sentence("OP_KILL uses the same SEND.");
        for (int dst = -2; dst <= 5; dst++) {
            for (int sig = -1; sig <= 33; sig++) {
                SignalKernel outside = killer(dst, sig);
                SignalKernel inside = killer(dst, sig);
                int answer = outside.send(dst, sig);
                inside.run(1);
                String call = "SEND(" + dst + ", " + sig + ")";
                boolean diedOfIt = dst == 3 && sig == 9;
                checks.due(call, inside.reg(3, R_A), diedOfIt ? 77 : answer);
                checks.due(call + ": R_PC", inside.reg(3, R_PC), diedOfIt ? 2 : 3);
                for (int pid = 0; pid < 4; pid++) {
                    sameSignals(call, outside, inside, pid);
                }
            }
        }
    }

    /** The others are stopped, 0 with stops pending and 2 with a full queue; the last one's next step sends sig to dst. */
    private static SignalKernel killer(int dst, int sig) {
        SignalKernel x = Checks.spinning(4, 1);
        Checks.load(x, 3, 0, LDB, dst, LDA, 77, KILL, sig);
        x.send(0, 15);
        x.send(1, 12);
        x.send(2, 15);
        x.run(2);
        x.send(0, 12);
        x.send(0, 3);
        for (int i = 0; i < 8; i++) {
            x.send(2, 20);
        }
        return x;
    }

    private static void sameSignals(String call, SignalKernel x, SignalKernel y, int pid) {
        checks.due(call + ": state(" + pid + ")", y.state(pid), x.state(pid));
        checks.due(call + ": R_PENDING of " + pid, y.reg(pid, R_PENDING), x.reg(pid, R_PENDING));
        checks.due(call + ": R_QUEUED of " + pid, y.reg(pid, R_QUEUED), x.reg(pid, R_QUEUED));
        for (int sig = 1; sig <= 15; sig++) {
            checks.due(call + ": pendingSerial(" + pid + ", " + sig + ")", y.pendingSerial(pid, sig), x.pendingSerial(pid, sig));
        }
        checks.due(call + ": logTotal()", y.logTotal(), x.logTotal());
        checks.lastEvent(y, x.logField(x.logTotal() - 1, 0), x.logField(x.logTotal() - 1, 1),
            x.logField(x.logTotal() - 1, 2), x.logField(x.logTotal() - 1, 3));
    }

    private static void orderAndRefusals() {
        checks.sentence("SEND considers these conditions in order, and a refused send changes nothing:");
        checks.refused("no such signal, no such process", () -> Scenes.busy(true), x -> x.send(4, 32), EINVAL);
        checks.refused("no such signal, a dead process", () -> Scenes.busy(true), x -> x.send(3, 0), EINVAL);
        checks.refused("no such signal, a full queue", () -> Scenes.busy(true), x -> x.send(2, 32), EINVAL);
        checks.refused("KILL of no process", () -> Scenes.busy(true), x -> x.send(-1, 9), ESRCH);
        checks.refused("KILL of the exited", () -> Scenes.busy(true), x -> x.send(3, 9), ESRCH);
        checks.refused("KILL of the killed", () -> Scenes.busy(false), x -> x.send(3, 9), ESRCH);
        checks.refused("CONT of the dead", () -> Scenes.busy(false), x -> x.send(3, 14), ESRCH);
        checks.refused("a full queue", () -> Scenes.busy(false), x -> x.send(2, 16), EAGAIN);
        SignalKernel x = Scenes.busy(false);
        x.send(2, 9);
        checks.due("the dead, whose queue was full", x.send(2, 16), ESRCH);
    }

    private static void signals() {
        checks.sentence("If `sig` is not in 1..31, the answer is EINVAL.");
        int[] outside = {LEAST, -32, -9, -1, 0, 32, 33, 41, 46, GREATEST};
        for (int pid = 0; pid < 4; pid++) {
            int dst = pid;
            for (int sig : outside) {
                checks.refused("send(" + pid + ", " + sig + ")", () -> Scenes.busy(false), x -> x.send(dst, sig), EINVAL);
            }
        }
        for (int sig = 1; sig <= 31; sig++) {
            checks.due("send(0, " + sig + ")", Checks.spinning(1, 1).send(0, sig), 1);
        }
    }

    private static void targets() {
        checks.sentence("If `dst` is not in 0..P-1, or is EXITED or KILLED, the answer is ESRCH.");
        int[] signals = {1, 9, 12, 14, 15, 16, 31};
        for (int sig : signals) {
            for (int procs = 1; procs <= 4; procs++) {
                int count = procs;
                int[] outside = {LEAST, -1, procs, procs + 1, 4, 5, GREATEST};
                for (int dst : outside) {
                    checks.refused("P " + procs + ": send(" + dst + ", " + sig + ")", () -> Scenes.numbered(count, 1), x -> x.send(dst, sig), ESRCH);
                }
                checks.due("P " + procs + ": send(0, " + sig + ")", Checks.spinning(procs, 1).send(0, sig), 1);
                checks.due("P " + procs + ": send(P-1, " + sig + ")", Checks.spinning(procs, 1).send(procs - 1, sig), 1);
            }
            checks.refused("send to the exited, " + sig, () -> Scenes.busy(true), x -> x.send(3, sig), ESRCH);
            checks.refused("send to the killed, " + sig, () -> Scenes.busy(false), x -> x.send(3, sig), ESRCH);
        }
    }

    /** Process 3 of four, which blocks every signal, has this many queued. */
    private static SignalKernel queueing(int entries) {
        SignalKernel x = Checks.spinning(4, 1);
        Checks.load(x, 3, 0, LDA, -1, MASK, 2, JMP, 2);
        x.run(2);
        for (int i = 0; i < entries; i++) {
            x.send(3, 16 + i);
        }
        return x;
    }

    private static void fullQueue() {
        checks.sentence("If `sig` >= 16 and `dst`'s queue holds 8 entries, the answer is EAGAIN.");
        for (int sig = 1; sig <= 31; sig++) {
            int sent = sig;
            checks.due("send(3, " + sig + ") with 7 queued", queueing(7).send(3, sig), 8);
            if (sig >= 16) {
                checks.refused("send(3, " + sig + ") with 8 queued", () -> queueing(8), x -> x.send(3, sent), EAGAIN);
            } else {
                checks.due("send(3, " + sig + ") with 8 queued", queueing(8).send(3, sig), 9);
            }
            checks.due("send(2, " + sig + "), another's queue", queueing(8).send(2, sig), 9);
        }
        roomAgain();
    }

    private static void roomAgain() {
        SignalKernel x = Checks.spinning(1, 1);
        x.setAction(0, 16, H_IGN, 0);
        for (int i = 0; i < 8; i++) {
            x.send(0, 16);
        }
        checks.due("a ninth", x.send(0, 16), EAGAIN);
        x.run(1);
        checks.due("a ninth after a delivery", x.send(0, 16), 9);
        checks.due("a tenth", x.send(0, 16), EAGAIN);
        checks.due("the last entry's serial", x.queued(0, 7, 1), 9);
    }

    private static void kill() {
        checks.sentence("Then `dst` dies KILLED with status 9, the kernel logs (EV_TERM, dst, 9, s), and the answer is s.");
        for (int pid = 0; pid < 3; pid++) {
            SignalKernel x = Scenes.busy(true);
            int events = x.logTotal();
            checks.due("send(" + pid + ", 9)", x.send(pid, 9), 18);
            checks.due("state(" + pid + ")", x.state(pid), KILLED);
            checks.due("R_STATUS", x.reg(pid, R_STATUS), 9);
            checks.due("logTotal()", x.logTotal(), events + 1);
            checks.lastEvent(x, EV_TERM, pid, 9, 18);
            checks.due("send(" + pid + ", 9) again", x.send(pid, 9), ESRCH);
            checks.due("the next serial", x.send((pid + 1) % 3, 13), 19);
        }
    }

    private static void stopsDropCont() {
        checks.sentence("If `sig` is 12 or 15, a pending 14 is dropped.");
        for (int sig = 1; sig <= 31; sig++) {
            if (sig == 9 || sig == 14) {
                continue;
            }
            boolean drops = sig == 12 || sig == 15;
            SignalKernel x = Checks.spinning(2, 1);
            x.send(0, 14);
            x.send(1, 14);
            checks.due("send(0, " + sig + ")", x.send(0, sig), 3);
            checks.due("pendingSerial(0, 14) after " + sig, x.pendingSerial(0, 14), drops ? 0 : 1);
            checks.due("R_PENDING after " + sig, x.reg(0, R_PENDING), 1 << sig | (drops ? 0 : 1 << 14));
            checks.due("pendingSerial(1, 14) after " + sig, x.pendingSerial(1, 14), 2);
            checks.due("14 anew after " + sig, x.send(0, 14), drops ? 4 : 0);
        }
    }

    private static void contDropsStopsAndResumes() {
        checks.sentence("If `sig` == 14, pending 12 and 15 are dropped, and (still only when `sig` == 14) if `dst` is stopped, its stopped flag is cleared and the kernel remembers that `dst` was resumed.");
        for (int pending = 0; pending < 4; pending++) {
            for (int stopped = 0; stopped < 2; stopped++) {
                SignalKernel x = stopped == 1 ? Scenes.stopped(15) : Scenes.masked(0);
                int serial = stopped + 1;
                if ((pending & 1) != 0) {
                    checks.due("send(0, 12)", x.send(0, 12), serial++);
                }
                if ((pending & 2) != 0) {
                    checks.due("send(0, 15)", x.send(0, 15), serial++);
                }
                checks.due("send(0, 11)", x.send(0, 11), serial++);
                checks.due("send(0, 13)", x.send(0, 13), serial++);
                checks.due("send(0, 14)", x.send(0, 14), serial);
                checks.due("R_PENDING", x.reg(0, R_PENDING), 1 << 11 | 1 << 13 | 1 << 14);
                checks.due("pendingSerial(0, 12)", x.pendingSerial(0, 12), 0);
                checks.due("pendingSerial(0, 15)", x.pendingSerial(0, 15), 0);
                checks.due("state(0)", x.state(0), RUNNING);
                checks.due("EV_STOP and EV_CONT", x.logTotal(), 2 * stopped);
            }
        }
    }

    private static void nothingElseResumes() {
        checks.sentence("No other signal resumes a stopped process.");
        int[] stops = {12, 15};
        for (int stop : stops) {
            for (int sig = -1; sig <= 33; sig++) {
                SignalKernel x = Scenes.stopped(stop);
                x.send(0, sig);
                checks.due("state(0) after " + sig, x.state(0), sig == 14 ? RUNNING : sig == 9 ? KILLED : STOPPED);
                checks.due("run(2) after " + sig, x.run(2), sig == 14 ? 2 : 0);
            }
        }
    }

    private static void coalescing() {
        checks.sentence("If `sig` <= 15 and `sig` is already pending, r = 0; the sends coalesce and the existing serial is kept.");
        for (int sig = 1; sig <= 16; sig++) {
            if (sig == 9) {
                continue;
            }
            SignalKernel x = Scenes.masked(-1);
            checks.due("send(0, " + sig + ")", x.send(0, sig), 1);
            checks.due("send(0, " + sig + ") again", x.send(0, sig), sig == 16 ? 2 : 0);
            checks.due("pendingSerial(0, " + sig + ")", x.pendingSerial(0, sig), sig == 16 ? 0 : 1);
            checks.due("the next serial", x.send(0, 31), sig == 16 ? 3 : 2);
        }
        coalescingChangesNothing();
    }

    private static void coalescingChangesNothing() {
        checks.refused("send(0, 5), pending", () -> Scenes.busy(false), x -> x.send(0, 5), 0);
        checks.refused("send(1, 6), pending", () -> Scenes.busy(false), x -> x.send(1, 6), 0);
        checks.refused("send(2, 3), pending at a stopped one", () -> Scenes.busy(false), x -> x.send(2, 3), 0);
        checks.refused("send(2, 12), pending at a stopped one", () -> Scenes.busy(false), x -> x.send(2, 12), 0);
    }

    private static void newStandardSignal() {
        checks.sentence("If `sig` <= 15 and it is not pending, issue serial s, mark `sig` pending with serial s, and r = s.");
        for (int sig = 1; sig <= 15; sig++) {
            if (sig == 9) {
                continue;
            }
            SignalKernel x = Checks.spinning(4, 1);
            for (int pid = 0; pid < 4; pid++) {
                checks.due("send(" + pid + ", " + sig + ")", x.send(pid, sig), pid + 1);
                checks.due("pendingSerial(" + pid + ", " + sig + ")", x.pendingSerial(pid, sig), pid + 1);
                checks.due("R_PENDING", x.reg(pid, R_PENDING), 1 << sig);
            }
        }
        SignalKernel x = Checks.spinning(1, 1);
        x.send(0, 13);
        x.run(1);
        checks.due("pending no more, so new", x.send(0, 13), 2);
    }

    private static void newRealTimeSignal() {
        checks.sentence("If `sig` >= 16, issue s, append (sig, s) to the end of the queue, and r = s.");
        for (int sig = 16; sig <= 31; sig++) {
            for (int entries = 0; entries < 8; entries++) {
                SignalKernel x = queueing(entries);
                checks.due("send(3, " + sig + ")", x.send(3, sig), entries + 1);
                checks.due("R_QUEUED", x.reg(3, R_QUEUED), entries + 1);
                checks.due("queued(3, " + entries + ", 0)", x.queued(3, entries, 0), sig);
                checks.due("queued(3, " + entries + ", 1)", x.queued(3, entries, 1), entries + 1);
                for (int i = 0; i < entries; i++) {
                    checks.due("queued(3, " + i + ", 0)", x.queued(3, i, 0), 16 + i);
                    checks.due("queued(3, " + i + ", 1)", x.queued(3, i, 1), i + 1);
                }
            }
        }
    }

    private static void resumeIsLogged() {
        checks.sentence("If `dst` was resumed in step 5, log (EV_CONT, dst, 14, r).");
        SignalKernel x = Scenes.busy(false);
        int events = x.logTotal();
        for (int pid = 0; pid < 3; pid++) {
            checks.due("send(" + pid + ", 14)", x.send(pid, 14), 19 + pid);
            checks.due("logTotal()", x.logTotal(), pid == 2 ? events + 1 : events);
        }
        checks.lastEvent(x, EV_CONT, 2, 14, 21);
        checks.due("send(2, 14) again", x.send(2, 14), 0);
        checks.due("logs nothing", x.logTotal(), events + 1);
        x = Scenes.stopped(12);
        x.send(0, 13);
        x.send(0, 16);
        checks.due("only 14 logs", x.logTotal(), 1);
    }

    private static void sendKeepsRegisters() {
        checks.sentence("SEND never changes registers, frames, depth or dispositions.");
        for (int pid = 0; pid < 3; pid++) {
            for (int sig = 1; sig <= 31; sig++) {
                SignalKernel x = Scenes.busy(false);
                SignalKernel y = Scenes.busy(false);
                x.send(pid, sig);
                String call = "send(" + pid + ", " + sig + ")";
                for (int which = R_PC; which <= R_DEPTH; which++) {
                    checks.due(call + ": reg " + which, x.reg(pid, which), y.reg(pid, which));
                }
                for (int i = 0; i < 16; i++) {
                    checks.due(call + ": frame " + i / 4, x.frame(pid, i / 4, i % 4), y.frame(pid, i / 4, i % 4));
                }
                for (int i = 2; i < 64; i++) {
                    checks.due(call + ": disposition " + i / 2, x.getAction(pid, i / 2, i % 2), y.getAction(pid, i / 2, i % 2));
                }
            }
        }
    }

    private static void sendKeepsSleepLeft() {
        checks.sentence("It changes sleep-left only through dying in step 4, which sets it to 0.");
        for (int sig = 1; sig <= 31; sig++) {
            SignalKernel x = Scenes.after(1, SLEEP, 1);
            x.send(0, sig);
            checks.due("R_SLEEP after " + sig, x.reg(0, R_SLEEP), sig == 9 ? 0 : 1);
            x = Scenes.after(1, SLEEP, GREATEST);
            x.send(0, 15);
            x.run(1);
            x.send(0, sig);
            checks.due("R_SLEEP of a stopped one after " + sig, x.reg(0, R_SLEEP), sig == 9 ? 0 : GREATEST);
        }
    }

    private static void blockingRefusesNothing() {
        checks.sentence("Blocking by MASK does not refuse a send; it only holds back delivery.");
        for (int sig = 1; sig <= 31; sig++) {
            SignalKernel x = Scenes.masked(-1);
            checks.due("send(0, " + sig + ")", x.send(0, sig), 1);
            if (sig == 9 || sig == 15) {
                continue;
            }
            checks.due("R_PENDING", x.reg(0, R_PENDING), 1 << sig);
            x.run(3);
            checks.due(sig + " is held back", x.logTotal(), 0);
            Checks.load(x, 0, 2, LDA, 1 << sig, MASK, 1, JMP, 4);
            x.run(3);
            checks.due(sig + " is let go", x.logTotal(), 1);
            checks.due("with its serial", x.logField(0, 3), 1);
        }
    }
}
