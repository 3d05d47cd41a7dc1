/**
 * Promises 1, 5 to 10 and 29 to 31, and the document's 'Loop' and 'Dependences': each sentence that names a boundary
 * case has a test of its own.
 */
public final class LoopEdgesTest {
    private static final Class<IllegalArgumentException> ARGUMENT = IllegalArgumentException.class;
    private static final Class<IllegalStateException> STATE = IllegalStateException.class;
    private static final Class<IndexOutOfBoundsException> INDEX = IndexOutOfBoundsException.class;
    private static final int MIN = Integer.MIN_VALUE;
    private static final int MAX = Integer.MAX_VALUE;

    private static final String EIGHT = "s1;s2;s3;s4;s5;s6;s7;s8;";
    private static final String EIGHT_SIGNALS = "f0>0:1;f0>0:2;f0>0:3;f0>0:4;f0>0:5;a0>0:1;a0>0:2;a0>0:3;";

    private static final Checks checks = new Checks();

    public static void main(String[] args) {
        nothingAtFirst();
        firstIterations();
        firstLatency();
        firstProcessors();
        firstAssignment();

        missingStatementForCost();
        costOutOfRange();
        costRange();
        previousCost();

        iterationsRange();
        latencyRange();
        processorsRange();
        assignmentRange();
        missingParameter();
        previousValue();

        bothPositions();
        demandedOrder();
        onlyThatOrder();
        standsThere();

        missingToRemove();
        numbersDecrease();
        remaining();

        missingStatement();
        missingStatementProperty();
        statementNumbers();
        newOneLast();
        offsetOfPositions();

        missingDependence();
        missingDependenceProperty();
        dependenceNumbers();
        sourceAndTargetTheSame();
        positionsAreKept();
        lagOfFlow();
        lagOfAnti();
        lagOfOutput();
        keptAtFirst();
        distanceZeroIsKept();

        savesAll();
        inPlace();
        savedNumber();
        noSnapshot();
        snapshotIsKept();
        bufferStays();
        restoredNumber();

        missingCount();
        counts();
        keptCount();
        countsOfParameters();
        checks.each(1, 1);
        checks.each(5, 10);
        checks.each(29, 31);
        checks.end();
    }

    /** Eight statements and sixteen dependences, with the distances 1 to 5, 1 to 3, and again. */
    private static DoacrossScheduler full() {
        return Checks.made(EIGHT, EIGHT_SIGNALS, EIGHT_SIGNALS);
    }

    private static void nothingAtFirst() {
        checks.sentence(1, "Creates a scheduler without statements and dependences.");
        DoacrossScheduler x = new DoacrossScheduler();
        checks.due("statements", x.count(0), 0);
        checks.due("dependences", x.count(1), 0);
        checks.due("kept dependences", x.count(2), 0);
        checks.due("characters", x.count(3), 0);
        checks.due("costs", x.count(4), 0);
        checks.dueThrow("statement(0, 0)", INDEX, () -> x.statement(0, 0));
        checks.dueThrow("setCost(0, 1)", INDEX, () -> x.setCost(0, 1));
        checks.dueThrow("start(0, 0)", INDEX, () -> x.start(0, 0));
        checks.dueThrow("exchange(0)", INDEX, () -> x.exchange(0));
        checks.dueThrow("precedes(0, 0)", INDEX, () -> x.precedes(0, 0) ? 1 : 0);
        checks.dueThrow("dependence(0, 0)", INDEX, () -> x.dependence(0, 0));
        checks.dueThrow("lead(0, 0)", INDEX, () -> x.lead(0, 0));
        checks.dueThrow("remove(0)", INDEX, () -> x.remove(0));
        checks.due("eliminate(0)", x.eliminate(0) + x.eliminate(1), 0);
        checks.due("keepAll()", x.keepAll(), 0);
        checks.due("signals()", x.signals(), 0);
        checks.due("violated()", x.violated(), -1);
    }

    private static void firstIterations() {
        checks.sentence(6, "The loop has a number of iterations, from 1 to 40, at first 10, which are numbered from 0.");
        DoacrossScheduler x = Checks.made("s1;");
        checks.due("count(10)", x.count(10), 10);
        checks.due("start(0, 0)", x.start(0, 0), 0);
        checks.due("start(0, 9)", x.start(0, 9), 4);
        checks.dueThrow("start(0, 10)", INDEX, () -> x.start(0, 10));
        checks.due("set(0, 40)", x.set(0, 40), 10);
        checks.due("start(0, 39)", x.start(0, 39), 19);
        checks.dueThrow("start(0, 40)", INDEX, () -> x.start(0, 40));
        checks.due("set(0, 1)", x.set(0, 1), 40);
        checks.due("start(0, 0)", x.start(0, 0), 0);
        checks.dueThrow("start(0, 1)", INDEX, () -> x.start(0, 1));
    }

    private static void firstLatency() {
        checks.sentence(6, "With the latency of signals, from 0 to 5, at first 1");
        DoacrossScheduler x = Checks.made("s1;a0>0:1;");
        checks.due("count(11)", x.count(11), 1);
        checks.due("the lag", x.dependence(0, 4), 2);
        checks.due("set(1, 0)", x.set(1, 0), 1);
        checks.due("the least lag", x.dependence(0, 4), 1);
        checks.due("set(1, 5)", x.set(1, 5), 0);
        checks.due("the greatest lag", x.dependence(0, 4), 6);
    }

    private static void firstProcessors() {
        checks.sentence(6, "There are 1 to 6 processors, at first 2, numbered from 0.");
        DoacrossScheduler x = Checks.made("s1;");
        checks.due("count(12)", x.count(12), 2);
        checks.due("total(1, 0)", x.total(1, 0), 5);
        checks.dueThrow("total(2, 0)", INDEX, () -> x.total(2, 0));
        checks.due("set(2, 1)", x.set(2, 1), 2);
        checks.due("total(0, 0)", x.total(0, 0), 10);
        checks.dueThrow("total(1, 0)", INDEX, () -> x.total(1, 0));
        checks.due("set(2, 6)", x.set(2, 6), 1);
        checks.due("total(5, 0)", x.total(5, 0), 1);
        checks.dueThrow("total(6, 0)", INDEX, () -> x.total(6, 0));
    }

    private static void firstAssignment() {
        checks.sentence(6, "At first it is cyclic.");
        DoacrossScheduler x = Checks.made("s1;");
        checks.due("count(13)", x.count(13), 0);
        for (int i = 0; i < 10; i++) {
            checks.due("processor(" + i + ")", x.processor(i), i % 2);
        }
    }

    private static void missingStatementForCost() {
        checks.sentence(5, "Throws `IndexOutOfBoundsException` if there is no such statement");
        DoacrossScheduler x = Checks.made("s1;s2;");
        for (int statement : new int[] {-1, 2, 8, MIN, MAX}) {
            checks.dueThrow("setCost(" + statement + ", 5)", INDEX, () -> x.setCost(statement, 5));
            checks.dueThrow("listed before a wrong cost", INDEX, () -> x.setCost(statement, 0));
        }
        checks.due("the last one", x.setCost(1, 5), 2);
        DoacrossScheduler y = Checks.made(EIGHT);
        checks.due("the last of eight", y.setCost(7, 1), 8);
        checks.dueThrow("setCost(8, 1)", INDEX, () -> y.setCost(8, 1));
    }

    private static void costOutOfRange() {
        checks.sentence(5, "Throws `IllegalArgumentException` if the cost is out of range");
        DoacrossScheduler x = Checks.made("s5;");
        for (int cost : new int[] {0, 10, -1, 11, -5, MIN, MAX}) {
            checks.dueThrow("setCost(0, " + cost + ")", ARGUMENT, () -> x.setCost(0, cost));
            checks.due("the cost is as it was", x.statement(0, 0), 5);
        }
    }

    private static void costRange() {
        checks.sentence(5, "`cost`: the cost, 1 to 9");
        DoacrossScheduler x = Checks.made("s5;");
        checks.due("the least", x.setCost(0, 1), 5);
        checks.due("the cost", x.statement(0, 0), 1);
        checks.due("the greatest", x.setCost(0, 9), 1);
        checks.due("the cost", x.statement(0, 0), 9);
    }

    private static void previousCost() {
        checks.sentence(5, "Returns the previous cost.");
        DoacrossScheduler x = Checks.made("s5;s6;");
        checks.due("the same cost again", x.setCost(0, 5), 5);
        checks.due("another cost", x.setCost(0, 6), 5);
        checks.due("back", x.setCost(0, 5), 6);
        checks.due("the other statement", x.setCost(1, 1), 6);
    }

    private static void rangeOf(int what, int least, int greatest) {
        DoacrossScheduler x = new DoacrossScheduler();
        for (int value = least; value <= greatest; value++) {
            x.set(what, value);
            checks.due("set(" + what + ", " + value + ")", x.count(10 + what), value);
        }
        for (int value : new int[] {least - 1, greatest + 1, -1, 41, MIN, MAX}) {
            checks.dueThrow("set(" + what + ", " + value + ")", ARGUMENT, () -> x.set(what, value));
            checks.due("it is as it was", x.count(10 + what), greatest);
        }
    }

    private static void iterationsRange() {
        checks.sentence(6, "0 for the number of iterations, 1 to 40");
        rangeOf(0, 1, 40);
    }

    private static void latencyRange() {
        checks.sentence(6, "1 for the latency, 0 to 5");
        rangeOf(1, 0, 5);
    }

    private static void processorsRange() {
        checks.sentence(6, "2 for the number of processors, 1 to 6");
        rangeOf(2, 1, 6);
    }

    private static void assignmentRange() {
        checks.sentence(6, "3 for the assignment, 0 to 2");
        rangeOf(3, 0, 2);
    }

    private static void missingParameter() {
        checks.sentence(6, "Throws `IllegalArgumentException` if there is no such what, or the value is out of range");
        DoacrossScheduler x = new DoacrossScheduler();
        for (int what : new int[] {-1, 4, 10, 13, MIN, MAX}) {
            for (int value : new int[] {0, 1, 2, -1}) {
                checks.dueThrow("set(" + what + ", " + value + ")", ARGUMENT, () -> x.set(what, value));
            }
        }
        checks.due("3 is the last one", x.set(3, 1), 0);
        checks.due("the others are as they were", x.count(10) * 100 + x.count(11) * 10 + x.count(12), 1012);
    }

    private static void previousValue() {
        checks.sentence(6, "Returns the previous value.");
        DoacrossScheduler x = new DoacrossScheduler();
        int[][] values = {{40, 40, 1, 10}, {5, 5, 0, 1}, {6, 6, 1, 2}, {2, 2, 1, 0}};
        int[] previous = {10, 1, 2, 0};
        for (int round = 0; round < 4; round++) {
            for (int what = 0; what < 4; what++) {
                checks.due("set(" + what + ", " + values[what][round] + ")", x.set(what, values[what][round]),
                    previous[what]);
                previous[what] = values[what][round];
            }
        }
    }

    private static void bothPositions() {
        checks.sentence(7, "Throws `IndexOutOfBoundsException` if one of both positions does not exist");
        for (int statements = 0; statements <= 8; statements++) {
            DoacrossScheduler x = new DoacrossScheduler();
            for (int s = 0; s < statements; s++) {
                Checks.run(x, "s1;");
            }
            for (int position = 0; position < statements - 1; position++) {
                checks.due("exchange(" + position + ") of " + statements, x.exchange(position), position + 1);
            }
            for (int position : new int[] {statements - 1, statements, statements + 1, -1, -2, MIN, MAX, MAX - 1}) {
                int wrong = position;
                checks.dueThrow("exchange(" + wrong + ") of " + statements, INDEX, () -> x.exchange(wrong));
            }
            if (statements > 0) {
                checks.due("0 has moved to the end", x.statement(0, 1), statements - 1);
            }
        }
    }

    private static void demandedOrder() {
        checks.sentence(7, "if there is a dependence with the distance 0 from the former to the latter");
        for (String kind : new String[] {"f", "a", "o"}) {
            DoacrossScheduler x = Checks.made("s1;s1;s1;s1;" + kind + "2>3:0;" + kind + "0>1:0;");
            checks.dueThrow("the first two, " + kind, STATE, () -> x.exchange(0));
            checks.dueThrow("the last two, " + kind, STATE, () -> x.exchange(2));
            checks.due("the order is as it was", x.statement(0, 1) * 1000 + x.statement(1, 1) * 100
                + x.statement(2, 1) * 10 + x.statement(3, 1), 123);
            x.eliminate(0);
            x.eliminate(1);
            checks.dueThrow("it can't be eliminated, " + kind, STATE, () -> x.exchange(0));
            x.remove(1);
            checks.due("the dependence is removed", x.exchange(0), 1);
        }
        DoacrossScheduler full = Checks.made("s1;s1;" + EIGHT_SIGNALS.substring(0, 49), EIGHT_SIGNALS, "f0>1:0;");
        checks.due("sixteen dependences", full.count(1), 16);
        checks.dueThrow("the last of sixteen", STATE, () -> full.exchange(0));
    }

    private static void onlyThatOrder() {
        checks.sentence(7, "Exchanges the statements at a position and at the next one.");
        DoacrossScheduler x = Checks.made("s1;s1;s1;f0>2:0;f0>1:1;a1>0:5;o0>1:5;");
        checks.due("greater distances are no hindrance, nor is a dependence to a third one", x.exchange(0), 1);
        checks.dueThrow("0 and 2 are next to each other now", STATE, () -> x.exchange(1));
        checks.due("the third one", x.statement(2, 1), 2);
        checks.due("the order", x.statement(1, 1) * 10 + x.statement(0, 1), 1);
    }

    private static void standsThere() {
        checks.sentence(7, "Returns the statement that stands at the position then.");
        DoacrossScheduler x = Checks.made("s1;s1;s1;");
        checks.due("exchange(0)", x.exchange(0), 1);
        checks.due("exchange(1)", x.exchange(1), 2);
        checks.due("exchange(0)", x.exchange(0), 2);
        checks.due("exchange(0) back", x.exchange(0), 1);
        checks.due("exchange(1) back", x.exchange(1), 0);
    }

    private static void missingToRemove() {
        checks.sentence(8, "Throws `IndexOutOfBoundsException` if there is no such dependence");
        DoacrossScheduler x = Checks.made("s1;f0>0:1;");
        for (int dependence : new int[] {1, 2, 16, -1, MIN, MAX}) {
            checks.dueThrow("remove(" + dependence + ")", INDEX, () -> x.remove(dependence));
        }
        checks.due("the only one", x.remove(0), 0);
        checks.dueThrow("it is gone", INDEX, () -> x.remove(0));
        DoacrossScheduler full = full();
        checks.dueThrow("remove(16)", INDEX, () -> full.remove(16));
        checks.due("remove(15)", full.remove(15), 15);
        checks.dueThrow("remove(15) again", INDEX, () -> full.remove(15));
    }

    private static void numbersDecrease() {
        checks.sentence(8, "Removes a dependence; the numbers of those after it decrease by 1.");
        int[] removed = {0, 7, 15};
        for (int dependence : removed) {
            DoacrossScheduler x = full();
            DoacrossScheduler y = full();
            x.eliminate(0);
            y.eliminate(0);
            x.remove(dependence);
            for (int d = 0; d < 15; d++) {
                int before = d < dependence ? d : d + 1;
                for (int what = 0; what < 6; what++) {
                    checks.due("dependence(" + d + ", " + what + ") after remove(" + dependence + ")",
                        x.dependence(d, what), y.dependence(before, what));
                }
            }
            checks.dueThrow("there is no 15", INDEX, () -> x.dependence(15, 0));
            Checks.run(x, "o7>6:5;");
            checks.due("a new one takes the last number", x.dependence(15, 1) * 10 + x.dependence(15, 2), 76);
            checks.due("it is kept", x.dependence(15, 5), 1);
        }
    }

    private static void remaining() {
        checks.sentence(8, "Returns the number of remaining dependences.");
        DoacrossScheduler x = full();
        for (int left = 15; left >= 0; left--) {
            checks.due("remove(0)", x.remove(0), left);
            checks.due("count(1)", x.count(1), left);
        }
    }

    private static void missingStatement() {
        checks.sentence(9, "Throws `IndexOutOfBoundsException` if there is no such statement");
        DoacrossScheduler x = Checks.made("s1;s2;");
        for (int statement : new int[] {2, 7, 8, -1, MIN, MAX}) {
            for (int what = -1; what <= 3; what++) {
                int asked = what;
                checks.dueThrow("statement(" + statement + ", " + asked + ")", INDEX, () -> x.statement(statement, asked));
            }
        }
        DoacrossScheduler y = Checks.made(EIGHT);
        checks.due("the last of eight", y.statement(7, 0), 8);
        checks.dueThrow("statement(8, 0)", INDEX, () -> y.statement(8, 0));
    }

    private static void missingStatementProperty() {
        checks.sentence(9, "Throws `IllegalArgumentException` if there is no such what");
        DoacrossScheduler x = Checks.made("s7;s2;");
        for (int what : new int[] {3, 4, -1, MIN, MAX}) {
            checks.dueThrow("statement(1, " + what + ")", ARGUMENT, () -> x.statement(1, what));
        }
        int[] want = {2, 1, 7};
        for (int what = 0; what < 3; what++) {
            checks.due("statement(1, " + what + ")", x.statement(1, what), want[what]);
        }
    }

    private static void statementNumbers() {
        checks.sentence(9, "The body of the loop has at most 8 statements, numbered from 0 in the order in which they were "
            + "added, each with a cost from 1 to 9 cycles.");
        DoacrossScheduler x = Checks.made(EIGHT);
        x.exchange(0);
        x.exchange(6);
        for (int s = 0; s < 8; s++) {
            checks.due("the cost of " + s, x.statement(s, 0), s + 1);
        }
    }

    private static void newOneLast() {
        checks.sentence(9, "at first it is the order of their numbers, and a new statement stands last");
        DoacrossScheduler x = Checks.made("s1;s2;s3;");
        for (int s = 0; s < 3; s++) {
            checks.due("the position of " + s, x.statement(s, 1), s);
        }
        x.exchange(0);
        x.exchange(1);
        Checks.run(x, "s4;s5;");
        int[] want = {2, 0, 1, 3, 4};
        for (int s = 0; s < 5; s++) {
            checks.due("the position of " + s + " after exchanges", x.statement(s, 1), want[s]);
        }
        x.reorder();
        Checks.run(x, "s6;");
        checks.due("the position of 5 after reorder", x.statement(5, 1), 5);
    }

    private static void offsetOfPositions() {
        checks.sentence(9, "2 for its offset, which is the sum of the costs of the statements at lower positions");
        DoacrossScheduler x = Checks.made(EIGHT);
        int[] sums = {0, 1, 3, 6, 10, 15, 21, 28};
        for (int s = 0; s < 8; s++) {
            checks.due("the offset of " + s, x.statement(s, 2), sums[s]);
        }
        x.exchange(6);
        checks.due("the last one", x.statement(6, 2), 29);
        checks.due("the last but one", x.statement(7, 2), 21);
        x.exchange(0);
        checks.due("the first one", x.statement(1, 2), 0);
        checks.due("the second one", x.statement(0, 2), 2);
        x.setCost(1, 9);
        checks.due("a cost before it changes", x.statement(0, 2), 9);
        x.setCost(0, 9);
        checks.due("its own cost does not count", x.statement(0, 2), 9);
        for (int s = 0; s < 8; s++) {
            x.setCost(s, 9);
        }
        checks.due("the greatest offset", x.statement(6, 2), 63);
    }

    private static void missingDependence() {
        checks.sentence(10, "Throws `IndexOutOfBoundsException` if there is no such dependence");
        DoacrossScheduler x = Checks.made("s1;f0>0:1;f0>0:2;");
        for (int dependence : new int[] {2, 15, 16, -1, MIN, MAX}) {
            for (int what = -1; what <= 6; what++) {
                int asked = what;
                checks.dueThrow("dependence(" + dependence + ", " + asked + ")", INDEX,
                    () -> x.dependence(dependence, asked));
            }
        }
        DoacrossScheduler full = full();
        checks.due("the last of sixteen", full.dependence(15, 3), 3);
        checks.dueThrow("dependence(16, 3)", INDEX, () -> full.dependence(16, 3));
    }

    private static void missingDependenceProperty() {
        checks.sentence(10, "Throws `IllegalArgumentException` if there is no such what");
        DoacrossScheduler x = Checks.made("s7;s2;o0>1:3;");
        for (int what : new int[] {6, 7, -1, MIN, MAX}) {
            checks.dueThrow("dependence(0, " + what + ")", ARGUMENT, () -> x.dependence(0, what));
        }
        int[] want = {2, 0, 1, 3, 7, 1};
        for (int what = 0; what < 6; what++) {
            checks.due("dependence(0, " + what + ")", x.dependence(0, what), want[what]);
        }
    }

    private static void dependenceNumbers() {
        checks.sentence(10, "There are at most 16 dependences, numbered from 0 in the order in which they were added.");
        DoacrossScheduler x = full();
        int[] distances = {1, 2, 3, 4, 5, 1, 2, 3, 1, 2, 3, 4, 5, 1, 2, 3};
        int[] kinds = {0, 0, 0, 0, 0, 1, 1, 1, 0, 0, 0, 0, 0, 1, 1, 1};
        for (int d = 0; d < 16; d++) {
            checks.due("the distance of " + d, x.dependence(d, 3), distances[d]);
            checks.due("the kind of " + d, x.dependence(d, 0), kinds[d]);
        }
    }

    private static void sourceAndTargetTheSame() {
        checks.sentence(10, "If it is greater, source and target can be the same statement.");
        DoacrossScheduler x = Checks.made("s3;s4;f1>1:1;a1>1:5;o1>1:1;f1>0:1;");
        for (int d = 0; d < 3; d++) {
            checks.due("the source of " + d, x.dependence(d, 1), 1);
            checks.due("the target of " + d, x.dependence(d, 2), 1);
        }
        checks.due("the target may stand before the source", x.dependence(3, 2), 0);
    }

    private static void positionsAreKept() {
        checks.sentence(7, "the position of the source must be lower than that of the target; this is always the case");
        DoacrossScheduler x = Checks.made("s1;s9;s1;f0>2:0;f2>0:1;f1>0:1;");
        for (int round = 0; round < 3; round++) {
            for (int position = 0; position < 2; position++) {
                int at = position;
                Checks.outcome(() -> x.exchange(at));
                checks.due("after exchange", x.statement(0, 1) < x.statement(2, 1), true);
            }
        }
        x.reorder();
        checks.due("after reorder", x.statement(0, 1) < x.statement(2, 1), true);
        DoacrossScheduler y = Checks.made("s1;s1;");
        y.exchange(0);
        y.save();
        y.exchange(0);
        Checks.run(y, "f0>1:0;");
        y.restore();
        checks.due("restore takes the dependence along", y.count(1), 0);
        checks.due("and brings the order back", y.statement(1, 1), 0);
        Checks.run(y, "f1>0:0;");
        checks.dueThrow("which a dependence can demand", STATE, () -> y.exchange(0));
    }

    private static int lagOf(char kind, int source, int target, int latency) {
        DoacrossScheduler x = Checks.made("s" + source + ";s" + target + ";" + kind + "0>1:1;");
        x.set(1, latency);
        return x.dependence(0, 4);
    }

    private static void lagOfFlow() {
        checks.sentence(10, "for flow, the cost of the source plus the latency");
        checks.due("the least", lagOf('f', 1, 9, 0), 1);
        checks.due("the greatest", lagOf('f', 9, 1, 5), 14);
        checks.due("the distance 0", Checks.made("s4;s9;f0>1:0;").dependence(0, 4), 5);
    }

    private static void lagOfAnti() {
        checks.sentence(10, "for anti, 1 plus the latency");
        checks.due("the least", lagOf('a', 9, 9, 0), 1);
        checks.due("the greatest", lagOf('a', 9, 1, 5), 6);
        checks.due("the distance 0", Checks.made("s4;s9;a0>1:0;").dependence(0, 4), 2);
    }

    private static void lagOfOutput() {
        checks.sentence(10, "The lag for output is the latency plus the greater one of 1 and the cost of the source minus "
            + "the cost of the target plus 1.");
        checks.due("the same cost", lagOf('o', 4, 4, 0), 1);
        checks.due("1 more", lagOf('o', 5, 4, 0), 2);
        checks.due("1 less", lagOf('o', 4, 5, 0), 1);
        checks.due("2 less", lagOf('o', 4, 6, 0), 1);
        checks.due("8 less", lagOf('o', 1, 9, 0), 1);
        checks.due("8 less, with latency", lagOf('o', 1, 9, 5), 6);
        checks.due("8 more", lagOf('o', 9, 1, 0), 9);
        checks.due("8 more, with latency", lagOf('o', 9, 1, 5), 14);
        checks.due("the same statement", Checks.made("s9;o0>0:1;").dependence(0, 4), 2);
    }

    private static void keptAtFirst() {
        checks.sentence(10, "are enforced by signals, as long as they are kept, which they are at first");
        DoacrossScheduler x = full();
        for (int d = 0; d < 16; d++) {
            checks.due("dependence(" + d + ", 5)", x.dependence(d, 5), 1);
        }
        x.eliminate(0);
        x.remove(0);
        Checks.run(x, "f0>0:5;");
        checks.due("a new one, even if it is implied", x.dependence(15, 5), 1);
    }

    private static void distanceZeroIsKept() {
        checks.sentence(10, "The property kept of a dependence with the distance 0 is always 1");
        DoacrossScheduler x = Checks.made("s1;s1;f0>1:0;a0>1:0;f0>1:1;f0>1:1;");
        x.eliminate(0);
        x.set(2, 1);
        x.set(1, 0);
        x.eliminate(1);
        checks.due("none of the others is kept", x.dependence(2, 5) + x.dependence(3, 5), 0);
        checks.due("after eliminate", x.dependence(0, 5) + x.dependence(1, 5), 2);
        x.keepAll();
        checks.due("after keepAll", x.dependence(0, 5) + x.dependence(1, 5), 2);
        x.save();
        x.restore();
        checks.due("after restore", x.dependence(0, 5) + x.dependence(1, 5), 2);
    }

    private static void savesAll() {
        checks.sentence(29, "Saves the loop, the dependences and all parameters");
        DoacrossScheduler x = full();
        int[] parameters = {40, 5, 6, 2};
        for (int what = 0; what < 4; what++) {
            x.set(what, parameters[what]);
        }
        x.exchange(6);
        x.eliminate(0);
        int kept = x.count(2);
        x.save();
        for (int what = 0; what < 4; what++) {
            checks.due("save leaves " + what, x.set(what, 1), parameters[what]);
        }
        for (int s = 0; s < 8; s++) {
            checks.due("save leaves the cost of " + s, x.setCost(s, 9), s + 1);
        }
        x.exchange(6);
        x.exchange(0);
        checks.due("save leaves what is not kept", x.keepAll(), 16 - kept);
        for (int d = 15; d >= 0; d--) {
            x.remove(d);
        }
        x.restore();
        for (int what = 0; what < 4; what++) {
            checks.due("parameter " + what, x.count(10 + what), parameters[what]);
        }
        int[] positions = {0, 1, 2, 3, 4, 5, 7, 6};
        for (int s = 0; s < 8; s++) {
            checks.due("the cost of " + s, x.statement(s, 0), s + 1);
            checks.due("the position of " + s, x.statement(s, 1), positions[s]);
        }
        checks.due("the dependences", x.count(1), 16);
        checks.due("those that are kept", x.count(2), kept);
        DoacrossScheduler y = full();
        y.eliminate(0);
        for (int d = 0; d < 16; d++) {
            for (int what : new int[] {0, 1, 2, 3, 5}) {
                checks.due("dependence(" + d + ", " + what + ")", x.dependence(d, what), y.dependence(d, what));
            }
        }
    }

    private static void inPlace() {
        checks.sentence(29, "in place of an earlier snapshot");
        DoacrossScheduler x = full();
        x.save();
        for (int d = 15; d >= 0; d--) {
            x.remove(d);
        }
        checks.due("a smaller one", x.save(), 0);
        Checks.run(x, "f0>0:1;");
        checks.due("the smaller one", x.restore(), 0);
        Checks.run(x, "a3>4:5;");
        checks.due("a greater one", x.save(), 1);
        x.remove(0);
        checks.due("the greater one", x.restore(), 1);
        checks.due("its distance", x.dependence(0, 3), 5);
    }

    private static void savedNumber() {
        checks.sentence(29, "Returns the number of dependences.");
        checks.due("nothing", new DoacrossScheduler().save(), 0);
        checks.due("statements only", Checks.made("s1;").save(), 0);
        DoacrossScheduler x = full();
        x.eliminate(0);
        checks.due("also those that are not kept", x.save(), 16);
        checks.due("the distance 0 too", Checks.made("s1;s1;f0>1:0;f0>0:1;").save(), 2);
    }

    private static void noSnapshot() {
        checks.sentence(30, "Throws `IllegalStateException` if there is no snapshot");
        DoacrossScheduler x = Checks.made("s1;f0>0:1;");
        checks.dueThrow("restore()", STATE, x::restore);
        checks.due("nothing was lost", x.count(0) * 10 + x.count(1), 11);
        x.save();
        checks.due("a snapshot", x.restore(), 1);
        DoacrossScheduler y = new DoacrossScheduler();
        checks.dueThrow("another object's snapshot is none", STATE, y::restore);
        y.save();
        checks.due("an empty snapshot is one", y.restore(), 0);
    }

    private static void snapshotIsKept() {
        checks.sentence(30, "Restores the snapshot, which is kept.");
        DoacrossScheduler x = Checks.made("s4;s5;f0>1:1;");
        x.save();
        for (int round = 0; round < 3; round++) {
            x.setCost(0, 9);
            x.set(0, 1);
            x.exchange(0);
            x.set(2, 1);
            x.set(1, 0);
            x.eliminate(1);
            Checks.run(x, "s1;f2>2:2;");
            checks.due("restore()", x.restore(), 1);
            checks.due("the statements", x.count(0), 2);
            checks.due("the cost", x.statement(0, 0), 4);
            checks.due("the position", x.statement(0, 1), 0);
            checks.due("the iterations", x.count(10), 10);
            checks.due("what is kept", x.count(2), 1);
            checks.due("and once more", x.restore(), 1);
        }
        x.remove(0);
        Checks.run(x, "a1>1:4;");
        x.restore();
        checks.due("the dependence", x.dependence(0, 0) * 10 + x.dependence(0, 3), 1);
    }

    private static void bufferStays() {
        checks.sentence(30, "restore leaves the buffer and the error position as they are");
        DoacrossScheduler x = Checks.made("s4;");
        Checks.write(x, "s2;x");
        checks.dueThrow("an error", ARGUMENT, x::execute);
        Checks.write(x, "s7");
        x.save();
        Checks.write(x, ";");
        x.restore();
        checks.due("the characters", x.count(3), 3);
        checks.due("the error position", x.errorPosition(), 3);
        checks.due("the text", x.execute(), 1);
        checks.due("its cost", x.statement(1, 0), 7);
        x.restore();
        checks.due("an empty buffer stays empty", x.count(3), 0);
        checks.due("no error stays none", x.errorPosition(), -1);
    }

    private static void restoredNumber() {
        checks.sentence(30, "Restores the snapshot, which is kept. Returns the number of dependences.");
        DoacrossScheduler x = full();
        x.eliminate(0);
        x.save();
        x.remove(0);
        checks.due("of the snapshot, not those before", x.restore(), 16);
        x.remove(0);
        x.save();
        checks.due("of the later snapshot", x.restore(), 15);
    }

    private static void missingCount() {
        checks.sentence(31, "Throws `IllegalArgumentException` if there is no such what");
        DoacrossScheduler x = Checks.made("s1;");
        for (int what : new int[] {-1, 5, 6, 9, 14, 15, 20, MIN, MIN + 4, MIN + 10, MAX, MAX - 10}) {
            checks.dueThrow("count(" + what + ")", ARGUMENT, () -> x.count(what));
        }
        int[] present = {0, 1, 2, 3, 4, 10, 11, 12, 13};
        int[] want = {1, 0, 0, 0, 1, 10, 1, 2, 0};
        for (int i = 0; i < present.length; i++) {
            checks.due("count(" + present[i] + ")", x.count(present[i]), want[i]);
        }
    }

    private static void counts() {
        checks.sentence(31, "0 for the statements, 1 for the dependences");
        DoacrossScheduler x = full();
        checks.due("the most statements", x.count(0), 8);
        checks.due("the most dependences", x.count(1), 16);
        checks.due("the sum of the costs", x.count(4), 36);
        for (int s = 0; s < 8; s++) {
            x.setCost(s, 9);
        }
        checks.due("the greatest sum of the costs", x.count(4), 72);
        x.eliminate(0);
        checks.due("also those that are not kept", x.count(1), 16);
        for (int i = 0; i < 60; i++) {
            x.append('z');
        }
        checks.due("a full buffer", x.count(3), 60);
    }

    private static void keptCount() {
        checks.sentence(31, "2 for the kept dependences with a distance greater than 0");
        DoacrossScheduler x = Checks.made("s1;s1;f0>1:0;f0>0:1;f0>0:2;f0>1:5;");
        checks.due("not those with the distance 0", x.count(2), 3);
        checks.due("eliminate(0)", x.eliminate(0), 2);
        checks.due("not those that are eliminated", x.count(2), 1);
        x.keepAll();
        checks.due("they are kept anew", x.count(2), 3);
        checks.due("all of sixteen", full().count(2), 16);
    }

    private static void countsOfParameters() {
        checks.sentence(31, "10 + k for parameter k of set, 0 to 3");
        DoacrossScheduler x = new DoacrossScheduler();
        int[] values = {40, 5, 6, 2};
        for (int k = 0; k < 4; k++) {
            x.set(k, values[k]);
        }
        for (int k = 0; k < 4; k++) {
            checks.due("count(" + (10 + k) + ")", x.count(10 + k), values[k]);
        }
    }
}
