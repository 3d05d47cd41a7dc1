/**
 * Promises 19 to 28 and the document's 'Processors' and 'Run': each sentence that names a boundary case has a test of
 * its own.
 */
public final class RunEdgesTest {
    private static final Class<IllegalArgumentException> ARGUMENT = IllegalArgumentException.class;
    private static final Class<IllegalStateException> STATE = IllegalStateException.class;
    private static final Class<IndexOutOfBoundsException> INDEX = IndexOutOfBoundsException.class;
    private static final int MIN = Integer.MIN_VALUE;
    private static final int MAX = Integer.MAX_VALUE;

    private static final int CYCLIC = 0;
    private static final int BLOCKS = 1;
    private static final int GREEDY = 2;

    private static final String EIGHT = "s9;s9;s9;s9;s9;s9;s9;s9;";

    private static final Checks checks = new Checks();

    public static void main(String[] args) {
        lengthOfNothing();
        lengthOfAll();
        lastEnd();

        missingStatementOrIteration();
        orderOfPositions();
        freeAtZero();
        earliestTime();
        latestOfSignals();
        lowerIterations();
        sourceInLowerIteration();
        onlyKeptSignals();
        distanceZeroNeedsNoSignal();

        missingIteration();
        cyclic();
        blocks();
        greedy();
        greedyWithoutStatements();

        missingProcessor();
        missingTotal();
        iterationsOfProcessor();
        timeOfStatements();
        stalls();
        freeWithoutAny();

        fillOfNothing();
        fillOfFirstStarts();
        fillOfThoseWithIterations();

        drainOfNothing();
        drainOfThoseWithIterations();

        missingPart();
        speedUpOfNothing();
        lowestTerms();

        leastNumber();
        numberStays();
        presentAssignment();

        iterationsThatHaveAHigherOne();
        signalsOfKept();
        signalsWithinOneProcessor();

        nothingViolated();
        startsBefore();
        firstViolated();
        latencyLeftOut();
        checks.each(19, 28);
        checks.end();
    }

    private static DoacrossScheduler with(int iterations, int latency, int processors, int assignment, String... texts) {
        DoacrossScheduler x = Checks.made(texts);
        x.set(0, iterations);
        x.set(1, latency);
        x.set(2, processors);
        x.set(3, assignment);
        return x;
    }

    private static String starts(DoacrossScheduler x, int statement) {
        StringBuilder starts = new StringBuilder();
        for (int i = 0; i < x.count(10); i++) {
            starts.append(i == 0 ? "" : " ").append(x.start(statement, i));
        }
        return starts.toString();
    }

    private static String processors(DoacrossScheduler x) {
        StringBuilder processors = new StringBuilder();
        for (int i = 0; i < x.count(10); i++) {
            processors.append(x.processor(i));
        }
        return processors.toString();
    }

    private static void lengthOfNothing() {
        checks.sentence(19, "it is 0 if there are no statements");
        for (int assignment = 0; assignment < 3; assignment++) {
            DoacrossScheduler x = new DoacrossScheduler();
            x.set(3, assignment);
            checks.due("ten iterations, assignment " + assignment, x.length(), 0);
            x.set(0, 40);
            x.set(2, 6);
            checks.due("forty iterations, assignment " + assignment, x.length(), 0);
            x.save();
            Checks.run(x, "s1;");
            checks.due("a statement, assignment " + assignment, x.length(), 7);
            x.restore();
            checks.due("no statements again, assignment " + assignment, x.length(), 0);
        }
    }

    private static void lengthOfAll() {
        checks.sentence(19, "Returns the length of the run.");
        for (int assignment = 0; assignment < 3; assignment++) {
            checks.due("the least", with(1, 0, 1, assignment, "s1;").length(), 1);
            checks.due("one iteration on six", with(1, 5, 6, assignment, "s1;s2;f1>0:1;").length(), 3);
            checks.due("forty times 72 on one", with(40, 5, 1, assignment, EIGHT).length(), 2880);
            checks.due("forty on six: seven for some", with(40, 5, 6, assignment, EIGHT).length(), 7 * 72);
            // Each iteration begins a body and the latency behind the one before.
            checks.due("the longest", with(40, 5, 6, assignment, EIGHT, "f7>0:1;").length(), 39 * 77 + 72);
        }
    }

    private static void lastEnd() {
        checks.sentence(19, "The length of a run is the time when the last statement ends");
        DoacrossScheduler x = with(5, 1, 2, BLOCKS, "s4;");
        checks.due("blocks of 3 and 2: the last iteration is not the last to end", x.length(), 12);
        checks.due("the last iteration ends sooner", x.start(0, 4), 4);
        DoacrossScheduler y = with(2, 1, 2, CYCLIC, "s9;s1;");
        y.exchange(0);
        checks.due("the one at the last position", y.length(), 10);
        checks.due("it is not the one with the last number", y.start(0, 1), 1);
    }

    private static void missingStatementOrIteration() {
        checks.sentence(20, "Throws `IndexOutOfBoundsException` if there is no such statement or iteration");
        for (int iterations : new int[] {1, 10, 39, 40}) {
            DoacrossScheduler x = with(iterations, 1, 1, CYCLIC, "s1;s2;");
            checks.due("the last one of " + iterations, x.start(1, iterations - 1), 3 * iterations - 2);
            for (int wrong : new int[] {iterations, iterations + 1, 41, -1, MIN, MAX}) {
                checks.dueThrow("start(0, " + wrong + ") of " + iterations, INDEX, () -> x.start(0, wrong));
            }
            for (int wrong : new int[] {2, 8, -1, MIN, MAX}) {
                checks.dueThrow("start(" + wrong + ", 0)", INDEX, () -> x.start(wrong, 0));
                checks.dueThrow("neither", INDEX, () -> x.start(wrong, wrong == 2 || wrong == 8 ? 40 : wrong));
            }
        }
        DoacrossScheduler y = with(40, 1, 1, CYCLIC, EIGHT);
        checks.due("the last of all", y.start(7, 39), 39 * 72 + 63);
        checks.dueThrow("start(8, 39)", INDEX, () -> y.start(8, 39));
        checks.dueThrow("start(7, 40)", INDEX, () -> y.start(7, 40));
    }

    private static void orderOfPositions() {
        checks.sentence(20, "Every iteration executes the statements in the order of their positions.");
        DoacrossScheduler x = with(2, 1, 1, CYCLIC, "s2;s3;s4;");
        checks.due("0 in the order 0, 1, 2", starts(x, 0), "0 9");
        checks.due("2 in the order 0, 1, 2", starts(x, 2), "5 14");
        x.exchange(0);
        x.exchange(1);
        checks.due("0 in the order 1, 2, 0", starts(x, 0), "7 16");
        checks.due("1 in the order 1, 2, 0", starts(x, 1), "0 9");
        checks.due("2 in the order 1, 2, 0", starts(x, 2), "3 12");
    }

    private static void freeAtZero() {
        checks.sentence(20, "It is free at time 0 and then when its last statement so far ends.");
        DoacrossScheduler x = with(8, 1, 6, CYCLIC, "s5;");
        checks.due("six begin at 0", starts(x, 0), "0 0 0 0 0 0 5 5");
        DoacrossScheduler y = with(3, 1, 1, CYCLIC, "s5;s1;");
        checks.due("no time between", starts(y, 0) + " " + starts(y, 1), "0 6 12 5 11 17");
    }

    private static void earliestTime() {
        checks.sentence(20, "A statement starts at the earliest time at which its processor is free and");
        checks.due("the lag 2, sooner than the processor", starts(with(4, 1, 1, CYCLIC, "s3;a0>0:1;"), 0), "0 3 6 9");
        checks.due("the lag 3, with the processor", starts(with(4, 2, 1, CYCLIC, "s3;a0>0:1;"), 0), "0 3 6 9");
        checks.due("the lag 4, later than the processor", starts(with(4, 3, 1, CYCLIC, "s3;a0>0:1;"), 0), "0 4 8 12");
        checks.due("the lag 1, another processor", starts(with(4, 0, 4, CYCLIC, "s3;a0>0:1;"), 0), "0 1 2 3");
        checks.due("the lag 1 and two processors", starts(with(4, 0, 2, CYCLIC, "s3;a0>0:1;"), 0), "0 1 3 4");
    }

    private static void latestOfSignals() {
        checks.sentence(20, "for every kept dependence with a distance d greater than 0 of which it is the target");
        // The iteration 1 waits for 0 + 2 by the anti one and for 0 + 4 by the flow one.
        checks.due("the later one is the first", starts(with(3, 1, 3, CYCLIC, "s3;f0>0:1;a0>0:1;"), 0), "0 4 8");
        checks.due("the later one is the last", starts(with(3, 1, 3, CYCLIC, "s3;a0>0:1;f0>0:1;"), 0), "0 4 8");
        DoacrossScheduler x = with(2, 1, 2, CYCLIC, "s3;s2;f0>1:1;");
        checks.due("the source does not wait", starts(x, 0), "0 0");
        checks.due("the target does", starts(x, 1), "3 4");
    }

    private static void lowerIterations() {
        checks.sentence(20, "the start of the source in the iteration that is d lower, if there is one, plus the lag has been "
            + "reached");
        for (int distance = 1; distance <= 5; distance++) {
            DoacrossScheduler x = with(6, 5, 6, CYCLIC, "s1;f0>0:" + distance + ";");
            for (int i = 0; i < 6; i++) {
                checks.due("iteration " + i + " over " + distance, x.start(0, i), i / distance * 6);
            }
            x.set(0, distance);
            checks.due("no iteration has a lower one", x.length(), 1);
        }
    }

    private static void sourceInLowerIteration() {
        checks.sentence(20, "the target in iteration i + distance does not start before the start of the source in iteration i "
            + "plus the lag");
        DoacrossScheduler x = with(3, 1, 3, CYCLIC, "s3;s2;f1>0:2;");
        // The source starts at 3 in the iteration 0, and its lag is 3.
        checks.due("the target", starts(x, 0), "0 0 6");
        checks.due("the source", starts(x, 1), "3 3 9");
    }

    private static void onlyKeptSignals() {
        checks.sentence(20, "Dependences with a distance greater than 0 are enforced by signals, as long as they are kept");
        DoacrossScheduler x = with(4, 0, 1, CYCLIC, "s3;f0>0:1;");
        x.eliminate(1);
        x.set(2, 4);
        checks.due("no signal", starts(x, 0), "0 0 0 0");
        x.keepAll();
        checks.due("a signal", starts(x, 0), "0 3 6 9");
    }

    private static void distanceZeroNeedsNoSignal() {
        checks.sentence(20, "Dependences with the distance 0 need no signal.");
        DoacrossScheduler x = with(2, 5, 2, CYCLIC, "s3;s2;f0>1:0;a0>1:0;o0>1:0;");
        checks.due("the target follows at once", starts(x, 1), "3 3");
        checks.due("the length", x.length(), 5);
    }

    private static void missingIteration() {
        checks.sentence(21, "Throws `IndexOutOfBoundsException` if there is no such iteration");
        for (int assignment = 0; assignment < 3; assignment++) {
            for (int iterations : new int[] {1, 10, 40}) {
                DoacrossScheduler x = with(iterations, 1, 1, assignment, "s1;");
                checks.due("the last one of " + iterations, x.processor(iterations - 1), 0);
                for (int wrong : new int[] {iterations, 41, -1, MIN, MAX}) {
                    checks.dueThrow("processor(" + wrong + ") of " + iterations, INDEX, () -> x.processor(wrong));
                }
            }
        }
        DoacrossScheduler none = new DoacrossScheduler();
        checks.due("there are iterations without statements", none.processor(9), 1);
        checks.dueThrow("processor(10) without statements", INDEX, () -> none.processor(10));
    }

    private static void cyclic() {
        checks.sentence(21, "0 cyclic, iteration i goes to processor i modulo their number");
        String[] want = {"00000000", "01010101", "01201201", "01230123", "01234012", "01234501"};
        for (int processors = 1; processors <= 6; processors++) {
            checks.due("on " + processors, processors(with(8, 1, processors, CYCLIC, "s1;")), want[processors - 1]);
        }
        checks.due("the last of forty", with(40, 1, 6, CYCLIC, "s1;").processor(39), 3);
        checks.due("fewer iterations than processors", processors(with(3, 1, 6, CYCLIC, "s1;")), "012");
    }

    private static void blocks() {
        checks.sentence(21, "1 blocks, iteration i of n iterations goes to processor i * p / n, rounded down");
        String[] want = {"0000000", "0000111", "0001122", "0011223", "0012234", "0012345"};
        for (int processors = 1; processors <= 6; processors++) {
            checks.due("7 on " + processors, processors(with(7, 1, processors, BLOCKS, "s1;")), want[processors - 1]);
        }
        checks.due("6 on 6", processors(with(6, 1, 6, BLOCKS, "s1;")), "012345");
        checks.due("4 on 6: two have none", processors(with(4, 1, 6, BLOCKS, "s1;")), "0134");
        checks.due("1 on 6", processors(with(1, 1, 6, BLOCKS, "s1;")), "0");
        checks.due("2 on 5", processors(with(2, 1, 5, BLOCKS, "s1;")), "02");
        checks.due("40 on 6", processors(with(40, 1, 6, BLOCKS, "s1;")), "0000000111111122222233333334444444555555");
        checks.due("without statements", processors(with(4, 1, 2, BLOCKS)), "0011");
    }

    private static void greedy() {
        checks.sentence(21, "2 greedy, iteration i goes to the processor that is the first one to be free after the iterations "
            + "before i, among ties the lowest one");
        checks.due("ties", processors(with(8, 1, 3, GREEDY, "s1;")), "01201201");
        checks.due("fewer iterations than processors", processors(with(3, 1, 6, GREEDY, "s1;")), "012");
        checks.due("one processor", processors(with(3, 1, 1, GREEDY, "s1;")), "000");
        // Two iterations without signal end at 1; the third one waits for the lag 6 and ends at 7, the fourth one
        // waits on the other processor and ends at 7; of the tie the lowest one takes the fifth one.
        DoacrossScheduler x = with(6, 5, 2, GREEDY, "s1;a0>0:2;");
        checks.due("starts", starts(x, 0), "0 0 6 6 12 12");
        checks.due("a tie after waiting", processors(x), "010101");
        // The iterations 0 and 1 end at 1, 2 on processor 0 at 2; 3 waits on processor 1 till 6, ends at 7. Processor
        // 0, free at 2, takes 4 and ends at 7; of the tie 0 takes 5.
        DoacrossScheduler y = with(6, 5, 2, GREEDY, "s1;a0>0:3;");
        checks.due("starts", starts(y, 0), "0 0 1 6 6 7");
        checks.due("the same one again", processors(y), "010100");
    }

    private static void greedyWithoutStatements() {
        checks.sentence(21, "without statements all are free at 0");
        DoacrossScheduler x = with(40, 1, 6, GREEDY);
        for (int i = 0; i < 40; i++) {
            checks.due("processor(" + i + ")", x.processor(i), 0);
        }
        checks.due("all iterations", x.total(0, 0), 40);
        checks.due("none", x.total(1, 0), 0);
    }

    private static void missingProcessor() {
        checks.sentence(22, "Throws `IndexOutOfBoundsException` if there is no such processor");
        for (int processors = 1; processors <= 6; processors++) {
            DoacrossScheduler x = with(12, 1, processors, CYCLIC, "s1;");
            checks.due("the last one of " + processors, x.total(processors - 1, 0), new int[] {12, 6, 4, 3, 2, 2}[processors
                - 1]);
            for (int wrong : new int[] {processors, 6, 7, -1, MIN, MAX}) {
                for (int what = -1; what <= 4; what++) {
                    int asked = what;
                    checks.dueThrow("total(" + wrong + ", " + what + ") of " + processors, INDEX,
                        () -> x.total(wrong, asked));
                }
            }
        }
    }

    private static void missingTotal() {
        checks.sentence(22, "Throws `IllegalArgumentException` if there is no such what");
        DoacrossScheduler x = with(4, 1, 2, CYCLIC, "s3;f0>0:1;");
        for (int what : new int[] {4, 5, -1, MIN, MAX}) {
            checks.dueThrow("total(1, " + what + ")", ARGUMENT, () -> x.total(1, what));
        }
        // Starts: 0 on 0, 4 on 1, 8 on 0, 12 on 1.
        int[] want = {2, 6, 9, 15};
        for (int what = 0; what < 4; what++) {
            checks.due("total(1, " + what + ")", x.total(1, what), want[what]);
        }
    }

    private static void iterationsOfProcessor() {
        checks.sentence(22, "0 for the number of its iterations");
        int[][] want = {{2, 2, 1, 1, 1}, {2, 1, 2, 1, 1}, {2, 2, 1, 1, 1}};
        for (int assignment = 0; assignment < 3; assignment++) {
            DoacrossScheduler x = with(7, 1, 5, assignment, "s1;");
            for (int p = 0; p < 5; p++) {
                checks.due("total(" + p + ", 0) of " + assignment, x.total(p, 0), want[assignment][p]);
            }
        }
        DoacrossScheduler few = with(2, 1, 6, BLOCKS, "s1;");
        int[] due = {1, 0, 0, 1, 0, 0};
        for (int p = 0; p < 6; p++) {
            checks.due("two iterations, total(" + p + ", 0)", few.total(p, 0), due[p]);
        }
        DoacrossScheduler none = with(40, 1, 3, CYCLIC);
        checks.due("iterations without statements", none.total(0, 0) * 100 + none.total(2, 0), 1413);
    }

    private static void timeOfStatements() {
        checks.sentence(22, "1 for the time in which it executes statements");
        DoacrossScheduler x = with(5, 1, 2, CYCLIC, "s3;s4;f1>0:1;");
        checks.due("three iterations of 7, without the stalls", x.total(0, 1), 21);
        checks.due("two iterations of 7", x.total(1, 1), 14);
        checks.due("the most", with(40, 1, 1, CYCLIC, EIGHT).total(0, 1), 2880);
        checks.due("no statements", with(40, 1, 1, CYCLIC).total(0, 1), 0);
        checks.due("no iterations", with(1, 1, 2, CYCLIC, "s9;").total(1, 1), 0);
    }

    private static void stalls() {
        checks.sentence(22, "The stall of a statement is the time between the time when its processor is free and its start.");
        DoacrossScheduler x = with(3, 1, 2, CYCLIC, "s3;s4;f1>0:1;a1>1:1;");
        // 0: 0 and 3, ends 7. 1: 8 and 11, ends 15. 2: free at 7, 16 and 19.
        checks.due("from 7 to 16", x.total(0, 2), 9);
        checks.due("from 0 on", x.total(1, 2), 8);
        DoacrossScheduler y = with(2, 5, 2, CYCLIC, "s1;s1;a0>0:1;a1>1:1;a0>1:1;");
        // 0: 0 and 1. 1: 6 and 7, the latter without a stall.
        checks.due("only the first statement", y.total(1, 2), 6);
        DoacrossScheduler z = with(2, 5, 2, CYCLIC, "s1;s1;a1>1:1;");
        // 1: 0, and free at 1, then 7.
        checks.due("only the second statement", z.total(1, 2), 6);
        checks.due("none", z.total(0, 2), 0);
        checks.due("a signal that comes when the processor is free", with(4, 2, 1, CYCLIC, "s3;a0>0:1;").total(0, 2), 0);
        checks.due("one cycle later", with(4, 3, 1, CYCLIC, "s3;a0>0:1;").total(0, 2), 3);
        checks.due("no iterations", with(1, 1, 2, CYCLIC, "s9;").total(1, 2), 0);
    }

    private static void freeWithoutAny() {
        checks.sentence(22, "3 for the time when it is free after its last statement, 0 without any");
        DoacrossScheduler x = with(2, 1, 4, BLOCKS, "s5;");
        int[] want = {5, 0, 5, 0};
        for (int p = 0; p < 4; p++) {
            checks.due("two iterations, total(" + p + ", 3)", x.total(p, 3), want[p]);
        }
        DoacrossScheduler none = with(40, 1, 2, CYCLIC);
        checks.due("no statements", none.total(0, 3) + none.total(1, 3), 0);
        none.save();
        Checks.run(none, "s1;f0>0:1;");
        checks.due("a statement", none.total(0, 3) * 100 + none.total(1, 3), 7779);
        none.restore();
        checks.due("no statements again", none.total(0, 3) + none.total(1, 3) + none.total(1, 2), 0);
        DoacrossScheduler y = with(3, 1, 2, CYCLIC, "s5;f0>0:1;");
        checks.due("the stalls before", y.total(0, 3) * 100 + y.total(1, 3), 1711);
    }

    private static void fillOfNothing() {
        checks.sentence(23, "Returns the time, 0 if there are no statements.");
        for (int assignment = 0; assignment < 3; assignment++) {
            checks.due("assignment " + assignment, with(40, 5, 6, assignment).fill(), 0);
            DoacrossScheduler x = with(6, 1, 6, assignment);
            x.save();
            Checks.run(x, "s1;f0>0:1;");
            checks.due("a statement", x.fill(), 10);
            x.restore();
            checks.due("no statements again", x.fill(), 0);
        }
    }

    private static void fillOfFirstStarts() {
        checks.sentence(23, "The fill is the latest of the first starts.");
        DoacrossScheduler x = with(9, 1, 3, CYCLIC, "s5;f0>0:1;");
        checks.due("0, 6 and 12", x.fill(), 12);
        x.set(2, 1);
        checks.due("one processor", x.fill(), 0);
        DoacrossScheduler y = with(9, 1, 3, CYCLIC, "s5;s1;f1>1:1;");
        checks.due("the second statement does not count", y.fill(), 0);
        y.exchange(0);
        checks.due("at the first position it does", y.fill(), 4);
        DoacrossScheduler z = with(4, 1, 2, BLOCKS, "s5;f0>0:1;");
        checks.due("the iteration 2 is the first of the second block", z.fill(), 12);
        // The blocks are 01 2 34 5 67 8. 6 waits for 1, which stands behind 0 and starts at 1; 8 waits for 3, which
        // waits for nothing: so the last processor is not the last one to start.
        DoacrossScheduler w = with(9, 1, 6, BLOCKS, "s1;f0>0:5;");
        checks.due("blocks of two and one", starts(w, 0), "0 1 0 0 1 2 3 4 2");
        checks.due("the latest, not that of the last processor", w.fill(), 3);
        DoacrossScheduler v = with(9, 5, 6, BLOCKS, "s9;f0>0:5;");
        checks.due("the same with other costs", v.fill(), 23);
    }

    private static void fillOfThoseWithIterations() {
        checks.sentence(23, "the time at which the last one of the processors that have iterations starts its first statement");
        for (int iterations = 1; iterations <= 8; iterations++) {
            DoacrossScheduler x = with(iterations, 1, 6, CYCLIC, "s1;f0>0:1;");
            checks.due(iterations + " iterations", x.fill(), Math.min(iterations - 1, 5) * 2);
        }
    }

    private static void drainOfNothing() {
        checks.sentence(24, "Returns the time, 0 if there are no statements.");
        for (int assignment = 0; assignment < 3; assignment++) {
            checks.due("assignment " + assignment, with(40, 5, 6, assignment).drain(), 0);
            DoacrossScheduler x = with(6, 1, 6, assignment);
            x.save();
            Checks.run(x, "s1;f0>0:1;");
            checks.due("a statement", x.drain(), 10);
            x.restore();
            checks.due("no statements again", x.drain(), 0);
        }
    }

    private static void drainOfThoseWithIterations() {
        checks.sentence(24, "the length of the run minus the earliest time at which a processor that has iterations is free "
            + "after its last statement");
        for (int iterations = 1; iterations <= 6; iterations++) {
            DoacrossScheduler x = with(iterations, 1, 6, CYCLIC, "s1;f0>0:1;");
            checks.due(iterations + " iterations", x.drain(), (iterations - 1) * 2);
        }
        checks.due("one processor", with(9, 1, 1, CYCLIC, "s5;f0>0:1;").drain(), 0);
        checks.due("three and two iterations", with(5, 1, 2, CYCLIC, "s4;").drain(), 4);
        checks.due("all at once", with(4, 1, 2, CYCLIC, "s4;").drain(), 0);
        checks.due("blocks, four of six have iterations", with(4, 1, 6, BLOCKS, "s9;").drain(), 0);
    }

    private static void missingPart() {
        checks.sentence(25, "Throws `IllegalArgumentException` if part is neither 0 nor 1");
        DoacrossScheduler x = with(3, 1, 2, CYCLIC, "s1;");
        DoacrossScheduler none = new DoacrossScheduler();
        for (int part : new int[] {2, 3, -1, MIN, MAX}) {
            checks.dueThrow("speedUp(" + part + ")", ARGUMENT, () -> x.speedUp(part));
            checks.dueThrow("listed before no statements", ARGUMENT, () -> none.speedUp(part));
        }
        checks.due("part 0", x.speedUp(0), 3);
        checks.due("part 1", x.speedUp(1), 2);
    }

    private static void speedUpOfNothing() {
        checks.sentence(25, "Throws `IllegalStateException` if there are no statements");
        DoacrossScheduler x = new DoacrossScheduler();
        checks.dueThrow("speedUp(0)", STATE, () -> x.speedUp(0));
        checks.dueThrow("speedUp(1)", STATE, () -> x.speedUp(1));
        x.save();
        Checks.run(x, "s1;");
        checks.due("one statement", x.speedUp(0), 2);
        x.restore();
        checks.dueThrow("none again", STATE, () -> x.speedUp(0));
    }

    private static void lowestTerms() {
        checks.sentence(25, "divided by the length of the run, in lowest terms");
        int[][] want = {{1, 1}, {2, 1}, {20, 7}, {4, 1}, {5, 1}, {40, 7}};
        for (int processors = 1; processors <= 6; processors++) {
            DoacrossScheduler x = with(40, 1, processors, CYCLIC, EIGHT);
            checks.due("numerator on " + processors, x.speedUp(0), want[processors - 1][0]);
            checks.due("denominator on " + processors, x.speedUp(1), want[processors - 1][1]);
        }
        DoacrossScheduler one = with(1, 5, 6, CYCLIC, "s7;");
        checks.due("one iteration", one.speedUp(0) * 10 + one.speedUp(1), 11);
        // 8 cycles in 4 + 3 * 7 without a common divisor, and 12 in 3 * 9 + 3, a half less.
        DoacrossScheduler below = with(4, 5, 2, CYCLIC, "s2;f0>0:1;");
        checks.due("below 1, no common divisor", below.speedUp(0) * 100 + below.speedUp(1), 823);
        DoacrossScheduler half = with(4, 5, 2, CYCLIC, "s3;f0>0:1;");
        checks.due("below 1, 12 in 27", half.speedUp(0) * 100 + half.speedUp(1), 409);
    }

    private static void leastNumber() {
        checks.sentence(26, "Returns the least number of processors, from 1 to 6, with which the length of the run is the least "
            + "one of all these numbers.");
        for (int assignment = 0; assignment < 3; assignment++) {
            checks.due("no statements: all as long", with(40, 1, 6, assignment).bestProcessors(), 1);
            checks.due("one iteration", with(1, 1, 6, assignment, "s9;").bestProcessors(), 1);
            checks.due("five iterations", with(5, 1, 1, assignment, "s9;").bestProcessors(), 5);
            checks.due("six iterations", with(6, 1, 1, assignment, "s9;").bestProcessors(), 6);
            checks.due("seven iterations: 4 do as well as 6", with(7, 1, 1, assignment, "s9;").bestProcessors(), 4);
            checks.due("forty iterations", with(40, 1, 1, assignment, EIGHT).bestProcessors(), 6);
            checks.due("one after the other", with(40, 0, 6, assignment, "s9;f0>0:1;").bestProcessors(), 1);
        }
    }

    private static void numberStays() {
        checks.sentence(26, "The number of processors does not change.");
        for (int processors = 1; processors <= 6; processors++) {
            DoacrossScheduler x = with(10, 1, processors, CYCLIC, "s4;");
            int length = x.length();
            checks.due("bestProcessors() on " + processors, x.bestProcessors(), 5);
            checks.due("count(12)", x.count(12), processors);
            checks.due("length()", x.length(), length);
            checks.due("the last iteration", x.processor(9), 9 % processors);
        }
    }

    private static void presentAssignment() {
        checks.sentence(26, "The best number of processors is that with the present assignment.");
        // An iteration of 5 can begin 2 behind the one before: three processors are enough in turn, while the first one
        // of a block waits for the last one of the block before.
        checks.due("cyclic", with(10, 1, 1, CYCLIC, "s5;a0>0:1;").bestProcessors(), 3);
        checks.due("blocks", with(10, 1, 1, BLOCKS, "s5;a0>0:1;").bestProcessors(), 6);
        checks.due("greedy", with(10, 1, 1, GREEDY, "s5;a0>0:1;").bestProcessors(), 3);
    }

    private static void iterationsThatHaveAHigherOne() {
        checks.sentence(27, "the number of iterations that have an iteration that is higher by the distance");
        for (int distance = 1; distance <= 5; distance++) {
            for (int iterations : new int[] {1, 2, 3, 4, 5, 6, 7, 39, 40}) {
                DoacrossScheduler x = with(iterations, 1, 2, CYCLIC, "s1;f0>0:" + distance + ";");
                checks.due(iterations + " iterations, the distance " + distance, x.signals(),
                    iterations > distance ? iterations - distance : 0);
            }
        }
        DoacrossScheduler y = with(3, 1, 2, CYCLIC, "s1;f0>0:5;f0>0:1;");
        checks.due("one that is too long takes nothing away", y.signals(), 2);
    }

    private static void signalsOfKept() {
        checks.sentence(27, "for each kept dependence with a distance greater than 0");
        checks.due("no dependences", new DoacrossScheduler().signals(), 0);
        DoacrossScheduler x = with(10, 1, 2, CYCLIC, "s1;s1;f0>1:0;a0>1:0;f0>0:1;f0>0:2;");
        checks.due("not those with the distance 0", x.signals(), 9 + 8);
        x.eliminate(0);
        checks.due("not those that are not kept", x.signals(), 9);
        DoacrossScheduler full = with(40, 1, 2, CYCLIC, "s1;f0>0:1;f0>0:1;f0>0:1;f0>0:1;f0>0:1;f0>0:1;f0>0:1;f0>0:1;",
            "f0>0:1;f0>0:1;f0>0:1;f0>0:1;f0>0:1;f0>0:1;f0>0:1;f0>0:1;");
        checks.due("sixteen", full.signals(), 16 * 39);
    }

    private static void signalsWithinOneProcessor() {
        checks.sentence(27, "Signals count also between iterations of one processor.");
        for (int assignment = 0; assignment < 3; assignment++) {
            checks.due("one processor", with(10, 1, 1, assignment, "s1;f0>0:1;").signals(), 9);
            checks.due("two processors", with(10, 1, 2, assignment, "s1;f0>0:2;").signals(), 8);
        }
    }

    private static void nothingViolated() {
        checks.sentence(28, "Returns the dependence, or -1 if there is none.");
        checks.due("a new object", new DoacrossScheduler().violated(), -1);
        checks.due("no dependences", Checks.made("s1;").violated(), -1);
        for (int assignment = 0; assignment < 3; assignment++) {
            DoacrossScheduler x = with(40, 5, 6, assignment, "s9;s1;f0>1:0;f1>0:1;a0>1:2;o0>0:3;f1>1:4;a1>0:5;");
            checks.due("all are kept", x.violated(), -1);
            x.eliminate(0);
            checks.due("those that signals imply are not violated", x.violated(), -1);
        }
    }

    /** A scheduler with all its signals eliminated: those of one processor without latency. */
    private static DoacrossScheduler withoutSignals(int iterations, String text) {
        DoacrossScheduler x = with(iterations, 0, 1, CYCLIC, text);
        x.eliminate(1);
        checks.due("no signals are left of " + text, x.count(2), 0);
        return x;
    }

    private static void startsBefore() {
        checks.sentence(28, "for some iteration i with an iteration i + distance, the target there starts before the start of "
            + "the source in iteration i plus the lag");
        DoacrossScheduler x = withoutSignals(2, "s3;f0>0:1;");
        checks.due("3 after the lag 3", x.violated(), -1);
        x.set(1, 1);
        checks.due("3 after the lag 4", x.violated(), 0);
        x.set(0, 1);
        checks.due("no iteration has a higher one", x.violated(), -1);
        DoacrossScheduler y = withoutSignals(3, "s3;f0>0:1;");
        y.set(2, 2);
        y.set(3, BLOCKS);
        checks.due("only the last one: 0 and 1 are in one block, 2 is in the next", y.violated(), 0);
        y.set(0, 4);
        checks.due("only one in the middle", y.violated(), 0);
        DoacrossScheduler z = withoutSignals(6, "s3;f0>0:5;");
        z.set(2, 6);
        checks.due("the distance 5 in six iterations", z.violated(), 0);
        z.set(0, 5);
        checks.due("the distance 5 in five iterations", z.violated(), -1);
        z.set(0, 40);
        z.set(2, 5);
        checks.due("the distance 5 on five processors", z.violated(), -1);
    }

    private static void firstViolated() {
        checks.sentence(28, "Returns the first dependence, kept or not, that the run violates");
        DoacrossScheduler x = withoutSignals(10, "s3;f0>0:2;f0>0:1;f0>0:3;");
        x.set(2, 4);
        checks.due("of all three the first", x.violated(), 0);
        x.set(2, 2);
        checks.due("only the second", x.violated(), 1);
        x.remove(1);
        checks.due("none any more", x.violated(), -1);
        Checks.run(x, "f0>0:1;");
        checks.due("a kept one is not violated", x.violated(), -1);
        x.set(2, 6);
        checks.due("nor are the others, which it implies", x.violated(), -1);
        String seven = "f0>0:2;f0>0:2;f0>0:2;f0>0:2;f0>0:2;f0>0:2;f0>0:2;";
        DoacrossScheduler full = with(10, 0, 1, CYCLIC, "s3;" + seven, seven, "f0>0:2;f0>0:1;");
        checks.due("sixteen are eliminated", full.eliminate(1), 16);
        full.set(2, 2);
        checks.due("the last of sixteen", full.violated(), 15);
    }

    private static void latencyLeftOut() {
        checks.sentence(28, "where for a distance of 0 the latency is left out of the lag");
        for (int latency = 0; latency <= 5; latency++) {
            for (String kind : new String[] {"f", "a", "o"}) {
                DoacrossScheduler x = with(10, latency, 2, CYCLIC, "s9;s1;" + kind + "0>1:0;");
                checks.due("latency " + latency + ", cost 9, " + kind, x.violated(), -1);
                x.setCost(0, 1);
                checks.due("latency " + latency + ", cost 1, " + kind, x.violated(), -1);
            }
        }
    }
}
