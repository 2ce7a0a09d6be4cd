import java.util.function.ToIntFunction;

/** The edges that promise 12 and the document's last section name, a test for each sentence. */
public final class Edges12Test implements Numbers {
    private static final Checks checks = new Checks("Edges12Test");

    public static void main(String[] args) {
        total();
        indexes();
        fields();
        order();
        invalid();
        changesNothing();
        eventsPastTheLast();
        checks.finish();
    }

    private static void total() {
        checks.sentence("`logTotal()` answers the number of events logged since construction, including those not stored.");
        SignalKernel x = Scenes.logged(0);
        for (int total = 0; total <= 260; total++) {
            checks.due("logTotal()", x.logTotal(), total);
            x.run(3);
        }
        int[] totals = {127, 128, 129, 1000, 5000};
        for (int total : totals) {
            checks.due("logTotal()", Scenes.logged(total).logTotal(), total);
        }
    }

    private static void indexes() {
        checks.sentence("`logField(index, field)` answers one field of stored event `index`, where `index` is in 0 .. min(logTotal, 128) - 1.");
        int[] totals = {0, 1, 2, 126, 127, 128, 129, 130, 256, 300};
        for (int total : totals) {
            SignalKernel x = Scenes.logged(total);
            int stored = Math.min(total, 128);
            for (int index = -2; index <= 302; index++) {
                boolean there = index >= 0 && index < stored;
                checks.due(total + " logged: logField(" + index + ", 0)", x.logField(index, 0), there ? EV_OUT : 0);
                checks.due(total + " logged: logField(" + index + ", 2)", x.logField(index, 2), there ? index + 1 : 0);
            }
        }
    }

    /** The last of so many processes is the one that acts, and serial 1 is out already. */
    private static SignalKernel handled(int procs) {
        SignalKernel x = Checks.spinning(procs, 1);
        x.send(0, 14);
        x.setAction(procs - 1, 30, 5, 0);
        x.send(procs - 1, 30);
        x.run(2);
        return x;
    }

    private static void fields() {
        String[] sentences = {"field 0: the kind;", "field 1: the pid;", "field 2: the value;", "field 3: the serial."};
        for (int field = 0; field < 4; field++) {
            checks.sentence(sentences[field]);
            for (int procs = 2; procs <= 4; procs++) {
                int[] ignored = {EV_IGNORE, 0, 14, 1};
                int[] caught = {EV_HANDLER, procs - 1, 30, 2};
                SignalKernel x = handled(procs);
                checks.due("logField(0, " + field + ")", x.logField(0, field), ignored[field]);
                checks.due("logField(1, " + field + ")", x.logField(1, field), caught[field]);
            }
        }
    }

    private static void order() {
        checks.sentence("Events are stored in the order they were logged.");
        SignalKernel x = new SignalKernel(4, 1);
        for (int pid = 0; pid < 4; pid++) {
            Checks.load(x, pid, 0, OUT, 0, ADD, 1, JMP, 0);
        }
        x.run(64);
        x.run(64);
        for (int i = 0; i < 128; i++) {
            checks.event(x, i, EV_OUT, i % 4, i / 4, 0);
        }
        checks.due("logTotal()", x.logTotal(), 172);
    }

    private static void invalid() {
        checks.sentence("Any invalid argument gives 0.");
        int[] totals = {1, 127, 128, 129};
        int[] badFields = {LEAST, -2, -1, 4, 5, GREATEST};
        for (int total : totals) {
            SignalKernel x = Scenes.logged(total);
            int stored = Math.min(total, 128);
            int[] badIndexes = {LEAST, -128, -2, -1, stored, stored + 1, 128, 129, GREATEST};
            for (int index : badIndexes) {
                for (int field = -1; field <= 4; field++) {
                    checks.due(total + " logged: logField(" + index + ", " + field + ")", x.logField(index, field), 0);
                }
            }
            for (int field : badFields) {
                checks.due(total + " logged: logField(0, " + field + ")", x.logField(0, field), 0);
                checks.due(total + " logged: logField(" + (stored - 1) + ", " + field + ")", x.logField(stored - 1, field), 0);
            }
            checks.event(x, stored - 1, EV_OUT, 0, stored, 0);
        }
    }

    private static void changesNothing() {
        checks.sentence("Neither method changes anything.");
        int events = Scenes.busy(false).logTotal();
        checks.refused("logTotal()", () -> Scenes.busy(false), x -> x.logTotal(), events);
        for (int index = -1; index <= events; index++) {
            for (int field = -1; field <= 4; field++) {
                int at = index;
                int read = field;
                int due = Scenes.busy(false).logField(index, field);
                checks.refused("logField(" + index + ", " + field + ")", () -> Scenes.busy(false), x -> x.logField(at, read), due);
            }
        }
        checks.refused("logField(128, 0) of a full log", () -> Scenes.logged(128), x -> x.logField(128, 0), 0);
        checks.refused("logField(127, 2) of a full log", () -> Scenes.logged(129), x -> x.logField(127, 2), 128);
    }

    private static void eventsPastTheLast() {
        checks.sentence("Events after the 128th are counted by logTotal but cannot be read.");
        for (int sig = 1; sig <= 31; sig++) {
            int kind = sig == 12 || sig == 15 ? EV_STOP : sig == 13 || sig == 14 ? EV_IGNORE : EV_TERM;
            int sent = sig;
            lastAndPastIt(0, kind, sig, 1, x -> x.send(0, sent) + x.run(1));
        }
        lastAndPastIt(0, EV_HANDLER, 20, 1, x -> x.setAction(0, 20, 5, 0) + x.send(0, 20) + x.run(1));
        lastAndPastIt(0, EV_OUT, 7, 0, x -> x.poke(0, 0, LDA, 7) + x.run(2));
        lastAndPastIt(0, EV_EXIT, 7, 0, x -> x.poke(0, 0, LDA, 7) + x.poke(0, 1, HALT, 0) + x.run(2));
        lastAndPastIt(0, EV_TERM, 11, 0, x -> x.poke(0, 0, JMP, 32) + x.run(2));
        // The stop that comes before it takes a place in the log too.
        lastAndPastIt(1, EV_CONT, 14, 2, x -> x.send(0, 15) + x.run(1) + x.send(0, 14));
    }

    /** Lets an act's event be the 128th, which can be read, and then the 129th, which can't. */
    private static void lastAndPastIt(int eventsBefore, int kind, int value, int serial, ToIntFunction<SignalKernel> act) {
        SignalKernel x = Scenes.logged(127 - eventsBefore);
        act.applyAsInt(x);
        checks.due("logTotal()", x.logTotal(), 128);
        checks.event(x, 127, kind, 0, value, serial);
        checks.event(x, 128, 0, 0, 0, 0);
        x = Scenes.logged(128);
        act.applyAsInt(x);
        checks.due("logTotal()", x.logTotal(), 129 + eventsBefore);
        checks.event(x, 127, EV_OUT, 0, 128, 0);
        checks.event(x, 128, 0, 0, 0, 0);
        checks.event(x, 129, 0, 0, 0, 0);
        checks.event(x, 0, EV_OUT, 0, 1, 0);
    }
}
