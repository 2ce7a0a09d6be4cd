/** Promise 5: rounds, counting, the order of steps, sleeping and a bad PC. */
public final class Promise05RunTest {
    private static final Checks checks = new Checks("Promise05RunTest");

    public static void main(String[] args) {
        rounds();
        counting();
        stepsInPidOrder();
        sleeping();
        sleepAndIgnoredSignals();
        badPc();
        badPcOfTheLastProcess();
        deliveryComesBeforeABadPc();
        deadAndStoppedDoNothing();
        checks.finish();
    }

    private static void rounds() {
        int[] asked = {Integer.MIN_VALUE, -1, 0, 1, 2, 63, 64, 65, 1000, Integer.MAX_VALUE};
        int[] given = {0, 0, 0, 1, 2, 63, 64, 64, 64, 64};
        for (int i = 0; i < asked.length; i++) {
            SignalKernel x = new SignalKernel(3, 1);
            for (int pid = 0; pid < 3; pid++) {
                Checks.load(x, pid, 0, SignalKernel.OP_ADD, 1, SignalKernel.OP_JMP, 0);
            }
            x.send(1, 13);
            long[] before = Checks.view(x);
            checks.due("run(" + asked[i] + ")", x.run(asked[i]), 3 * given[i]);
            checks.due("process 0 after run(" + asked[i] + ")", x.reg(0, SignalKernel.R_A), (given[i] + 1) / 2);
            if (given[i] == 0) {
                checks.unchanged("run(" + asked[i] + ")", x, before);
            }
        }
    }

    private static void counting() {
        SignalKernel x = Checks.spinning(4, 1);
        Checks.load(x, 0, 0, SignalKernel.OP_SLEEP, 50);
        Checks.load(x, 1, 0, SignalKernel.OP_HALT, 0);
        x.send(2, 15);
        checks.due("halting, stopping and falling asleep count", x.run(1), 4);
        checks.due("the dead and the stopped do not", x.run(1), 2);
        checks.due("run(10)", x.run(10), 20);
        x.send(2, 14);
        checks.due("the resumed one counts again", x.run(1), 3);
        checks.lastEvent(x, SignalKernel.EV_IGNORE, 2, 14, 2);
        x.send(3, 1);
        checks.due("a step that kills counts", x.run(1), 3);
        checks.due("and is the last one", x.run(1), 2);
    }

    private static void stepsInPidOrder() {
        SignalKernel x = new SignalKernel(4, 1);
        Checks.load(x, 0, 0, SignalKernel.OP_NOP, 0, SignalKernel.OP_LDB, 2, SignalKernel.OP_KILL, 9);
        Checks.load(x, 1, 0, SignalKernel.OP_LDB, 0, SignalKernel.OP_KILL, 3, SignalKernel.OP_JMP, 2);
        Checks.load(x, 2, 0, SignalKernel.OP_OUT, 0, SignalKernel.OP_LDB, 3, SignalKernel.OP_KILL, 2, SignalKernel.OP_JMP, 3);
        Checks.load(x, 3, 0, SignalKernel.OP_OUT, 0, SignalKernel.OP_JMP, 1);
        checks.due("run(1)", x.run(1), 4);
        checks.event(x, 0, SignalKernel.EV_OUT, 2, 0, 0);
        checks.event(x, 1, SignalKernel.EV_OUT, 3, 0, 0);
        checks.due("run(1)", x.run(1), 4);
        checks.due("process 1 signalled process 0, which has stepped already", x.pendingSerial(0, 3), 1);
        checks.due("run(1): 3 dies of 2's signal in the same round", x.run(1), 4);
        checks.due("logTotal()", x.logTotal(), 4);
        checks.event(x, 2, SignalKernel.EV_TERM, 0, 3, 1);
        checks.event(x, 3, SignalKernel.EV_TERM, 3, 2, 2);
        checks.due("run(1)", x.run(1), 2);
        killedBeforeItsTurn();
    }

    private static void killedBeforeItsTurn() {
        SignalKernel x = Checks.spinning(3, 1);
        Checks.load(x, 0, 0, SignalKernel.OP_LDB, 1, SignalKernel.OP_KILL, 9, SignalKernel.OP_JMP, 2);
        checks.due("run(1)", x.run(1), 3);
        checks.due("one killed earlier in the round takes no step", x.run(1), 2);
        checks.event(x, 0, SignalKernel.EV_TERM, 1, 9, 1);
        checks.registers(x, 0, 2, 1, 1);
    }

    private static void sleeping() {
        SignalKernel x = Checks.holding(SignalKernel.OP_LDA, 5, SignalKernel.OP_SLEEP, 3, SignalKernel.OP_OUT, 0);
        x.run(2);
        for (int left = 3; left >= 1; left--) {
            checks.due("state(0)", x.state(0), SignalKernel.SLEEPING);
            checks.due("reg(0, R_SLEEP)", x.reg(0, SignalKernel.R_SLEEP), left);
            checks.registers(x, 0, 1, 5, 0);
            checks.due("a sleeping step counts", x.run(1), 1);
        }
        checks.due("state(0)", x.state(0), SignalKernel.RUNNING);
        checks.due("reg(0, R_SLEEP)", x.reg(0, SignalKernel.R_SLEEP), 0);
        checks.registers(x, 0, 2, 0, 0);
        checks.due("nothing was logged", x.logTotal(), 0);
        int[] none = {0, -1, Integer.MIN_VALUE};
        for (int k : none) {
            x = Checks.holding(SignalKernel.OP_LDA, 5, SignalKernel.OP_SLEEP, k);
            x.run(2);
            checks.registers(x, 0, 2, 0, 0);
            checks.due("SLEEP " + k, x.state(0), SignalKernel.RUNNING);
            checks.due("SLEEP " + k, x.reg(0, SignalKernel.R_SLEEP), 0);
        }
        x = Checks.holding(SignalKernel.OP_SLEEP, Integer.MAX_VALUE);
        x.run(3);
        checks.due("a long sleep", x.reg(0, SignalKernel.R_SLEEP), Integer.MAX_VALUE - 2);
        x = Checks.holding(SignalKernel.OP_LDA, 5, SignalKernel.OP_SLEEP, 1);
        x.run(3);
        checks.registers(x, 0, 2, 0, 0);
    }

    private static void sleepAndIgnoredSignals() {
        SignalKernel x = Checks.holding(SignalKernel.OP_SLEEP, 4, SignalKernel.OP_JMP, 1);
        x.run(2);
        x.send(0, 13);
        x.run(1);
        checks.due("an ignored signal takes the step", x.reg(0, SignalKernel.R_SLEEP), 3);
        checks.lastEvent(x, SignalKernel.EV_IGNORE, 0, 13, 1);
        x.send(0, 15);
        x.run(1);
        checks.due("state(0)", x.state(0), SignalKernel.STOPPED);
        checks.due("a stop keeps sleep-left", x.reg(0, SignalKernel.R_SLEEP), 3);
        checks.lastEvent(x, SignalKernel.EV_STOP, 0, 15, 2);
        checks.due("run(5)", x.run(5), 0);
        checks.due("no sleep goes by while stopped", x.reg(0, SignalKernel.R_SLEEP), 3);
        x.send(0, 14);
        checks.due("state(0)", x.state(0), SignalKernel.SLEEPING);
        x.run(4);
        checks.due("reg(0, R_SLEEP)", x.reg(0, SignalKernel.R_SLEEP), 0);
        checks.registers(x, 0, 1, 0, 0);
    }

    private static void badPc() {
        int[] targets = {Integer.MIN_VALUE, -1, 32, 33, 64, Integer.MAX_VALUE};
        for (int target : targets) {
            SignalKernel x = new SignalKernel(2, 1);
            Checks.load(x, 0, 0, SignalKernel.OP_LDA, 4, SignalKernel.OP_JMP, target);
            Checks.load(x, 1, 0, SignalKernel.OP_JMP, 0);
            checks.due("run(2)", x.run(2), 4);
            checks.due("the jump itself kills nothing", x.state(0), SignalKernel.RUNNING);
            checks.due("run(1)", x.run(1), 2);
            checks.due("state(0)", x.state(0), SignalKernel.KILLED);
            checks.due("reg(0, R_STATUS)", x.reg(0, SignalKernel.R_STATUS), 11);
            checks.registers(x, 0, target, 4, 0);
            checks.due("logTotal()", x.logTotal(), 1);
            checks.event(x, 0, SignalKernel.EV_TERM, 0, 11, 0);
            checks.due("no serial was issued", x.send(1, 1), 1);
        }
        SignalKernel x = new SignalKernel(1, 1);
        Checks.load(x, 0, 0, SignalKernel.OP_JMP, 31);
        Checks.load(x, 0, 31, SignalKernel.OP_LDA, 6);
        x.run(3);
        checks.due("running off the end", x.state(0), SignalKernel.KILLED);
        checks.registers(x, 0, 32, 6, 0);
    }

    private static void badPcOfTheLastProcess() {
        SignalKernel x = Checks.spinning(4, 1);
        x.poke(3, 0, SignalKernel.OP_JMP, 32);
        x.run(2);
        checks.due("state(3)", x.state(3), SignalKernel.KILLED);
        checks.event(x, 0, SignalKernel.EV_TERM, 3, 11, 0);
        checks.due("the others run on", x.run(1), 3);
    }

    private static void deliveryComesBeforeABadPc() {
        SignalKernel x = Checks.holding(SignalKernel.OP_JMP, Integer.MAX_VALUE);
        Checks.load(x, 0, 9, SignalKernel.OP_SIGRET, 0);
        x.setAction(0, 11, 9, 0);
        x.run(1);
        x.send(0, 11);
        x.run(1);
        checks.registers(x, 0, 9, 11, 1);
        checks.frame(x, 0, Integer.MAX_VALUE, 0, 0, 0);
        x.run(1);
        checks.registers(x, 0, Integer.MAX_VALUE, 0, 0);
        x.run(1);
        checks.due("a handler of 11 does not catch a bad PC", x.state(0), SignalKernel.KILLED);
        checks.lastEvent(x, SignalKernel.EV_TERM, 0, 11, 0);
    }

    private static void deadAndStoppedDoNothing() {
        SignalKernel x = new SignalKernel(3, 1);
        Checks.load(x, 2, 0, SignalKernel.OP_OUT, 0, SignalKernel.OP_JMP, 0);
        x.send(1, 9);
        x.send(2, 12);
        x.run(1);
        x.send(2, 1);
        x.send(2, 16);
        long[] before = Checks.view(x);
        checks.due("run(64)", x.run(64), 0);
        checks.unchanged("a round of the dead and the stopped", x, before);
    }
}
