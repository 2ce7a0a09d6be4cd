/** Promise 12: logTotal and logField. */
public final class Promise12Test {
    private static final Checks checks = new Checks("Promise12Test");

    public static void main(String[] args) {
        fieldsInOrder();
        wrongArguments();
        moreThanFit();
        checks.finish();
    }

    private static void fieldsInOrder() {
        SignalKernel x = Checks.spinning(4, 1);
        Checks.load(x, 2, 0, SignalKernel.OP_LDA, -3, SignalKernel.OP_OUT, 0, SignalKernel.OP_HALT, 0);
        Checks.load(x, 3, 5, SignalKernel.OP_JMP, 5);
        x.setAction(3, 21, 5, 0);
        x.send(3, 21);
        x.send(1, 15);
        x.send(0, 13);
        x.run(3);
        x.send(1, 14);
        x.send(3, 9);
        checks.due("logTotal()", x.logTotal(), 7);
        checks.event(x, 0, SignalKernel.EV_IGNORE, 0, 13, 3);
        checks.event(x, 1, SignalKernel.EV_STOP, 1, 15, 2);
        checks.event(x, 2, SignalKernel.EV_HANDLER, 3, 21, 1);
        checks.event(x, 3, SignalKernel.EV_OUT, 2, -3, 0);
        checks.event(x, 4, SignalKernel.EV_EXIT, 2, -3, 0);
        checks.event(x, 5, SignalKernel.EV_CONT, 1, 14, 4);
        checks.event(x, 6, SignalKernel.EV_TERM, 3, 9, 5);
        checks.event(x, 7, 0, 0, 0, 0);
    }

    private static void wrongArguments() {
        SignalKernel x = Checks.spinning(2, 1);
        x.send(1, 9);
        long[] before = Checks.view(x);
        int[] badIndexes = {Integer.MIN_VALUE, -128, -1, 1, 2, 127, 128, 129, Integer.MAX_VALUE};
        for (int index : badIndexes) {
            for (int field = -1; field <= 4; field++) {
                checks.due("logField(" + index + ", " + field + ")", x.logField(index, field), 0);
            }
        }
        int[] badFields = {Integer.MIN_VALUE, -1, 4, 5, Integer.MAX_VALUE};
        for (int field : badFields) {
            checks.due("logField(0, " + field + ")", x.logField(0, field), 0);
        }
        checks.event(x, 0, SignalKernel.EV_TERM, 1, 9, 1);
        checks.unchanged("logField", x, before);
        checks.due("no serial was issued", x.send(0, 1), 2);
    }

    private static void moreThanFit() {
        SignalKernel x = Checks.holding(SignalKernel.OP_ADD, 1, SignalKernel.OP_OUT, 0, SignalKernel.OP_JMP, 0);
        int total = 0;
        while (total < 300) {
            x.run(3);
            total++;
            checks.due("logTotal()", x.logTotal(), total);
            int last = Math.min(total, 128) - 1;
            checks.event(x, last, SignalKernel.EV_OUT, 0, last + 1, 0);
            checks.event(x, last + 1, 0, 0, 0, 0);
        }
        for (int i = 0; i < 128; i++) {
            checks.event(x, i, SignalKernel.EV_OUT, 0, i + 1, 0);
        }
        for (int i = 128; i < 302; i++) {
            checks.event(x, i, 0, 0, 0, 0);
        }
        x.send(0, 9);
        checks.due("logTotal()", x.logTotal(), 301);
        checks.due("an event that isn't stored still acts", x.state(0), SignalKernel.KILLED);
    }
}
