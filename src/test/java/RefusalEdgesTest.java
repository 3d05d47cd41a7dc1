import java.util.Arrays;

/**
 * What the document says of all methods at its beginning, each promise with a test of its own: a refused call leaves
 * the state unchanged, and of several possible exceptions the one listed first is thrown.
 */
public final class RefusalEdgesTest {
    /** A call of the face. */
    private interface Call {
        long on(DoacrossScheduler x);
    }

    private static final String UNCHANGED = "A method that throws an exception leaves the state unchanged, unless its "
        + "description says otherwise.";
    private static final String LISTED_FIRST = "If several exceptions are possible, the one listed first in the description "
        + "of the method is thrown.";
    private static final int ARGUMENT = 0;
    private static final int STATE = 1;
    private static final int INDEX = 2;
    private static final int UNSUPPORTED = 3;
    private static final int MIN = Integer.MIN_VALUE;
    private static final int MAX = Integer.MAX_VALUE;
    private static final int[] BEYOND = {-1, 40, MIN, MAX};

    private static final Checks checks = new Checks();

    public static void main(String[] args) {
        append();
        execute();
        setCost();
        set();
        exchange();
        remove();
        statement();
        dependence();
        lead();
        eliminate();
        precedes();
        orders();
        start();
        processor();
        total();
        speedUp();
        restore();
        count();

        firstListedOfAppend();
        firstListedOfSetCost();
        firstListedOfStatement();
        firstListedOfDependence();
        firstListedOfLead();
        firstListedOfTotal();
        firstListedOfSpeedUp();

        questions();
        lastCall();
        checks.end();
    }

    /** Three statements in another order, dependences of which some are not kept, a snapshot, an error and a text. */
    private static DoacrossScheduler state() {
        DoacrossScheduler x = Checks.made("s2;s3;s1;f0>1:0;f0>0:1;f0>0:2;");
        x.set(0, 4);
        x.save();
        x.exchange(1);
        x.eliminate(0);
        x.setCost(0, 9);
        x.set(1, 3);
        x.set(2, 3);
        x.set(3, 1);
        Checks.write(x, "s1;f9");
        Checks.outcome(x::execute);
        Checks.write(x, "s6;a1>3:2;");
        return x;
    }

    private static void refused(String what, int want, Call call) {
        DoacrossScheduler x = state();
        due(what, want, x, call);
        checks.due(what + " leaves", States.told(x), States.told(state()));
    }

    private static void due(String what, int want, DoacrossScheduler x, Call call) {
        String[] names = {"IllegalArgumentException", "IllegalStateException", "IndexOutOfBoundsException",
            "UnsupportedOperationException"};
        checks.due(what, Checks.outcome(() -> call.on(x)), "throws." + names[want]);
    }

    private static void append() {
        checks.sentence(2, UNCHANGED);
        for (int packed : new int[] {' ', '!' << 8 | 127, '!' << 24 | 1, -1, MIN, MAX}) {
            refused("append(" + packed + ")", ARGUMENT, x -> x.append(packed));
        }
        DoacrossScheduler x = state();
        DoacrossScheduler y = state();
        for (int i = 10; i < 58; i++) {
            x.append('!');
            y.append('!');
        }
        due("three more than 58", STATE, x, z -> z.append('!' << 16 | '!' << 8 | '!'));
        checks.due("three more than 58 leave", States.told(x), States.told(y));
    }

    private static void execute() {
        checks.sentence(3, UNCHANGED);
        for (String wrong : new String[] {"s", "s0;", "f9", "a1>1:0;", "s1;s1;s1;s1;s1;", "f0>0:1;f0>0:1;s7;x"}) {
            DoacrossScheduler x = state();
            Checks.write(x, wrong);
            due("a text that ends with " + wrong, ARGUMENT, x, DoacrossScheduler::execute);
            // The error position and the buffer are what the description says otherwise of.
            DoacrossScheduler y = state();
            Checks.write(x, "s6;a1>3:2;");
            x.execute();
            y.execute();
            checks.due("a text that ends with " + wrong + " leaves", States.told(x), States.told(y));
        }
    }

    private static void setCost() {
        checks.sentence(5, UNCHANGED);
        for (int wrong : BEYOND) {
            refused("setCost(" + wrong + ", 1)", INDEX, x -> x.setCost(wrong, 1));
            refused("setCost(0, " + wrong + ")", ARGUMENT, x -> x.setCost(0, wrong));
        }
        refused("setCost(3, 5)", INDEX, x -> x.setCost(3, 5));
        refused("setCost(1, 0)", ARGUMENT, x -> x.setCost(1, 0));
        refused("setCost(2, 10)", ARGUMENT, x -> x.setCost(2, 10));
    }

    private static void set() {
        checks.sentence(6, UNCHANGED);
        for (int wrong : BEYOND) {
            refused("set(" + wrong + ", 1)", ARGUMENT, x -> x.set(wrong, 1));
        }
        int[][] beyond = {{0, 41}, {-1, 6}, {0, 7}, {-1, 3}};
        for (int what = 0; what < 4; what++) {
            for (int value : beyond[what]) {
                int asked = what;
                refused("set(" + what + ", " + value + ")", ARGUMENT, x -> x.set(asked, value));
            }
        }
        refused("set(4, 1)", ARGUMENT, x -> x.set(4, 1));
    }

    private static void exchange() {
        checks.sentence(7, UNCHANGED);
        for (int wrong : BEYOND) {
            refused("exchange(" + wrong + ")", INDEX, x -> x.exchange(wrong));
        }
        refused("exchange(2)", INDEX, x -> x.exchange(2));
        DoacrossScheduler x = state();
        DoacrossScheduler y = state();
        x.exchange(1);
        y.exchange(1);
        due("0 before 1", STATE, x, z -> z.exchange(0));
        checks.due("0 before 1 leaves", States.told(x), States.told(y));
    }

    private static void remove() {
        checks.sentence(8, UNCHANGED);
        for (int wrong : BEYOND) {
            refused("remove(" + wrong + ")", INDEX, x -> x.remove(wrong));
        }
        refused("remove(3)", INDEX, x -> x.remove(3));
    }

    private static void statement() {
        checks.sentence(9, UNCHANGED);
        refused("statement(3, 0)", INDEX, x -> x.statement(3, 0));
        refused("statement(0, 3)", ARGUMENT, x -> x.statement(0, 3));
    }

    private static void dependence() {
        checks.sentence(10, UNCHANGED);
        refused("dependence(3, 0)", INDEX, x -> x.dependence(3, 0));
        refused("dependence(0, 6)", ARGUMENT, x -> x.dependence(0, 6));
    }

    private static void lead() {
        checks.sentence(11, UNCHANGED);
        refused("lead(3, 0)", INDEX, x -> x.lead(3, 0));
        refused("lead(1, 2)", ARGUMENT, x -> x.lead(1, 2));
        refused("lead(0, 0)", STATE, x -> x.lead(0, 0));
    }

    private static void eliminate() {
        checks.sentence(12, UNCHANGED);
        for (int wrong : new int[] {2, -1, MIN, MAX}) {
            refused("eliminate(" + wrong + ")", ARGUMENT, x -> x.eliminate(wrong));
        }
    }

    private static void precedes() {
        checks.sentence(14, UNCHANGED);
        for (int wrong : BEYOND) {
            refused("precedes(" + wrong + ", 0)", INDEX, x -> x.precedes(wrong, 0) ? 1 : 0);
            refused("precedes(0, " + wrong + ")", INDEX, x -> x.precedes(0, wrong) ? 1 : 0);
        }
    }

    private static void orders() {
        checks.sentence(18, UNCHANGED);
        for (int call = 0; call < 2; call++) {
            DoacrossScheduler x = state();
            DoacrossScheduler y = state();
            for (DoacrossScheduler z : Arrays.asList(x, y)) {
                z.execute();
                Checks.run(z, "s9;s9;s9;f6>2:1;");
                z.exchange(5);
            }
            if (call == 0) {
                due("leastDelay() of seven", UNSUPPORTED, x, DoacrossScheduler::leastDelay);
            } else {
                due("reorder() of seven", UNSUPPORTED, x, DoacrossScheduler::reorder);
            }
            checks.due("seven statements stay", States.told(x), States.told(y));
        }
    }

    private static void start() {
        checks.sentence(20, UNCHANGED);
        refused("start(3, 0)", INDEX, x -> x.start(3, 0));
        refused("start(0, 4)", INDEX, x -> x.start(0, 4));
    }

    private static void processor() {
        checks.sentence(21, UNCHANGED);
        refused("processor(4)", INDEX, x -> x.processor(4));
        refused("processor(-1)", INDEX, x -> x.processor(-1));
    }

    private static void total() {
        checks.sentence(22, UNCHANGED);
        refused("total(3, 0)", INDEX, x -> x.total(3, 0));
        refused("total(0, 4)", ARGUMENT, x -> x.total(0, 4));
    }

    private static void speedUp() {
        checks.sentence(25, UNCHANGED);
        refused("speedUp(2)", ARGUMENT, x -> x.speedUp(2));
        DoacrossScheduler x = new DoacrossScheduler();
        due("speedUp(0) of nothing", STATE, x, z -> z.speedUp(0));
        checks.due("speedUp(0) of nothing leaves", States.told(x), States.told(new DoacrossScheduler()));
    }

    private static void restore() {
        checks.sentence(30, UNCHANGED);
        DoacrossScheduler x = Checks.made("s2;s3;f0>1:1;f1>0:2;");
        DoacrossScheduler y = Checks.made("s2;s3;f0>1:1;f1>0:2;");
        for (DoacrossScheduler z : Arrays.asList(x, y)) {
            z.exchange(0);
            z.set(0, 3);
            z.set(3, 2);
            Checks.write(z, "s4;");
        }
        due("no snapshot", STATE, x, DoacrossScheduler::restore);
        checks.due("no snapshot leaves", States.told(x), States.told(y));
    }

    private static void count() {
        checks.sentence(31, UNCHANGED);
        for (int wrong : new int[] {-1, 5, 9, 14, MIN, MAX}) {
            refused("count(" + wrong + ")", ARGUMENT, x -> x.count(wrong));
        }
    }

    private static void firstListedOfAppend() {
        checks.sentence(2, LISTED_FIRST);
        DoacrossScheduler x = new DoacrossScheduler();
        for (int i = 0; i < 60; i++) {
            x.append('!');
        }
        due("the buffer is full, and the byte is wrong", ARGUMENT, x, z -> z.append(' '));
        due("the buffer is full, and the last byte is wrong", ARGUMENT, x, z -> z.append('!' << 24 | 127));
        due("the buffer is full", STATE, x, z -> z.append('!'));
    }

    private static void firstListedOfSetCost() {
        checks.sentence(5, LISTED_FIRST);
        due("neither", INDEX, state(), x -> x.setCost(3, 0));
        due("neither", INDEX, state(), x -> x.setCost(-1, 10));
        due("only the cost", ARGUMENT, state(), x -> x.setCost(2, 10));
    }

    private static void firstListedOfStatement() {
        checks.sentence(9, LISTED_FIRST);
        due("neither", INDEX, state(), x -> x.statement(3, 3));
        due("neither", INDEX, state(), x -> x.statement(-1, -1));
        due("only what", ARGUMENT, state(), x -> x.statement(2, 3));
    }

    private static void firstListedOfDependence() {
        checks.sentence(10, LISTED_FIRST);
        due("neither", INDEX, state(), x -> x.dependence(3, 6));
        due("neither", INDEX, state(), x -> x.dependence(-1, -1));
        due("only what", ARGUMENT, state(), x -> x.dependence(2, 6));
    }

    private static void firstListedOfLead() {
        checks.sentence(11, LISTED_FIRST);
        due("neither", INDEX, state(), x -> x.lead(3, 2));
        due("neither", INDEX, state(), x -> x.lead(-1, -1));
        due("no mode and the distance 0", ARGUMENT, state(), x -> x.lead(0, 2));
        due("no mode and the distance 0", ARGUMENT, state(), x -> x.lead(0, -1));
        due("only the distance 0", STATE, state(), x -> x.lead(0, 1));
    }

    private static void firstListedOfTotal() {
        checks.sentence(22, LISTED_FIRST);
        due("neither", INDEX, state(), x -> x.total(3, 4));
        due("neither", INDEX, state(), x -> x.total(-1, -1));
        due("only what", ARGUMENT, state(), x -> x.total(2, 4));
    }

    private static void firstListedOfSpeedUp() {
        checks.sentence(25, LISTED_FIRST);
        due("no part and no statements", ARGUMENT, new DoacrossScheduler(), x -> x.speedUp(2));
        due("no part and no statements", ARGUMENT, new DoacrossScheduler(), x -> x.speedUp(-1));
        due("only no statements", STATE, new DoacrossScheduler(), x -> x.speedUp(1));
    }

    private static void questions() {
        checks.sentence(19, "Nothing is promised beyond the answers and state changes described above");
        Call[] calls = {DoacrossScheduler::errorPosition, x -> x.append(0), x -> x.statement(1, 2),
            x -> x.dependence(2, 4), x -> x.lead(1, 0), x -> x.lead(2, 1), x -> x.precedes(0, 1) ? 1 : 0,
            DoacrossScheduler::delay, DoacrossScheduler::critical, DoacrossScheduler::leastDelay,
            DoacrossScheduler::length, x -> x.start(2, 3), x -> x.processor(3), x -> x.total(2, 3),
            DoacrossScheduler::fill, DoacrossScheduler::drain, x -> x.speedUp(0), x -> x.speedUp(1),
            DoacrossScheduler::bestProcessors, DoacrossScheduler::signals, DoacrossScheduler::violated,
            x -> x.count(2)};
        String want = States.told(state());
        for (int i = 0; i < calls.length; i++) {
            DoacrossScheduler x = state();
            calls[i].on(x);
            checks.due("question " + i + " leaves", States.told(x), want);
        }
    }

    private static void lastCall() {
        checks.sentence(3, "An object is used for at most 512 calls after it has been made");
        DoacrossScheduler x = new DoacrossScheduler();
        x.append('s' << 24 | '9' << 16 | ';' << 8);
        x.execute();
        for (int call = 3; call <= 509; call++) {
            x.setCost(0, call % 9 + 1);
        }
        x.append('s' << 24 | '1' << 16 | ';' << 8);
        checks.due("the call 511", x.execute(), 1);
        checks.due("the call 512", x.count(4), 509 % 9 + 2);
    }
}
