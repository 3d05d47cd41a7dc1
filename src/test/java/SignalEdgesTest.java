/**
 * Promises 11 to 18 and the document's 'Implication': each sentence that names a boundary case has a test of its own.
 */
public final class SignalEdgesTest {
    private static final Class<IllegalArgumentException> ARGUMENT = IllegalArgumentException.class;
    private static final Class<IllegalStateException> STATE = IllegalStateException.class;
    private static final Class<IndexOutOfBoundsException> INDEX = IndexOutOfBoundsException.class;
    private static final Class<UnsupportedOperationException> UNSUPPORTED = UnsupportedOperationException.class;
    private static final int MIN = Integer.MIN_VALUE;
    private static final int MAX = Integer.MAX_VALUE;

    private static final String EIGHT = "s9;s9;s9;s9;s9;s9;s9;s9;";
    private static final String SEVEN_ANTI = "a0>0:1;a0>0:1;a0>0:1;a0>0:1;a0>0:1;a0>0:1;a0>0:1;";

    private static final Checks checks = new Checks();

    public static void main(String[] args) {
        missingDependence();
        missingMode();
        distanceZeroHasNoLead();
        noPath();
        keptOrNot();
        otherDependences();
        onlyKeptOnes();
        onlyGreaterDistances();
        iterationsUpToTheDistance();
        bodyEdges();
        processorEdges();
        noProcessorEdges();
        sameForAllAssignments();
        greatestOfPaths();

        missingModeOfEliminate();
        asMuchAsTheLag();
        descendingDistances();
        descendingNumbers();
        impliedAtThatTime();
        onlyThoseThatAreKept();
        eliminatedNumber();
        distanceZeroIsNotEliminated();

        makesAllKept();
        keptAnewNumber();

        missingStatement();
        sequenceOfDependences();
        oneOrMoreInSequence();

        noSuchDependence();
        fromZeroOn();
        atLeast();
        delayOfKept();

        noCritical();
        lessWithout();
        staysNotKept();

        tooManyForLeastDelay();
        tooManyForReorder();
        everyOrder();
        ordersThatAreAllowed();
        orderStays();
        lexicographicallyFirst();
        changedPositions();
        checks.each(11, 18);
        checks.end();
    }

    private static DoacrossScheduler with(int latency, int processors, String... texts) {
        DoacrossScheduler x = Checks.made(texts);
        x.set(1, latency);
        x.set(2, processors);
        return x;
    }

    /** The order as digits by positions, so that 1 2 0 is 120. */
    private static int order(DoacrossScheduler x) {
        int statements = x.count(0);
        int[] order = new int[statements];
        for (int s = 0; s < statements; s++) {
            order[x.statement(s, 1)] = s;
        }
        int digits = 0;
        for (int s : order) {
            digits = digits * 10 + s;
        }
        return digits;
    }

    /** Those that are kept as binary digits, the lowest number last. */
    private static String kept(DoacrossScheduler x) {
        StringBuilder kept = new StringBuilder();
        for (int d = x.count(1) - 1; d >= 0; d--) {
            kept.append(x.dependence(d, 5));
        }
        return kept.toString();
    }

    private static void missingDependence() {
        checks.sentence(11, "Throws `IndexOutOfBoundsException` if there is no such dependence");
        DoacrossScheduler x = Checks.made("s1;f0>0:1;f0>0:2;");
        for (int dependence : new int[] {2, 16, -1, MIN, MAX}) {
            for (int mode : new int[] {0, 1, 2, -1}) {
                checks.dueThrow("lead(" + dependence + ", " + mode + ")", INDEX, () -> x.lead(dependence, mode));
            }
        }
        checks.due("the last one", x.lead(1, 0), 4);
        DoacrossScheduler full = Checks.made("s1;" + SEVEN_ANTI, SEVEN_ANTI, "a0>0:1;a0>0:2;");
        checks.due("the last of sixteen", full.lead(15, 0), 4);
        checks.dueThrow("lead(16, 0)", INDEX, () -> full.lead(16, 0));
    }

    private static void missingMode() {
        checks.sentence(11, "Throws `IllegalArgumentException` if there is no such mode");
        DoacrossScheduler x = with(1, 1, "s1;s1;f0>0:1;f0>1:0;");
        for (int mode : new int[] {2, 3, -1, MIN, MAX}) {
            checks.dueThrow("lead(0, " + mode + ")", ARGUMENT, () -> x.lead(0, mode));
            checks.dueThrow("listed before the distance 0", ARGUMENT, () -> x.lead(1, mode));
        }
        checks.due("the mode 0", x.lead(0, 0), -1);
        checks.due("the mode 1", x.lead(0, 1), 2);
    }

    private static void distanceZeroHasNoLead() {
        checks.sentence(11, "Throws `IllegalStateException` if its distance is 0");
        DoacrossScheduler x = Checks.made("s1;s1;f0>1:0;a0>1:1;o0>1:0;");
        for (int mode = 0; mode < 2; mode++) {
            int asked = mode;
            checks.dueThrow("lead(0, " + mode + ")", STATE, () -> x.lead(0, asked));
            checks.dueThrow("lead(2, " + mode + ")", STATE, () -> x.lead(2, asked));
            checks.due("the distance 1 has an answer", x.lead(1, mode), -1);
        }
    }

    private static void noPath() {
        checks.sentence(11, "Returns the lead, or -1 if there is no path.");
        checks.due("one dependence", Checks.made("s1;f0>0:1;").lead(0, 0), -1);
        checks.due("mode 1, too many processors", Checks.made("s1;f0>0:1;").lead(0, 1), -1);
        checks.due("only a way to another statement", Checks.made("s1;s1;f1>0:1;f1>1:1;").lead(0, 0), -1);
        checks.due("only a way from a later one", Checks.made("s1;s1;f0>1:2;f1>0:1;f1>1:1;").lead(1, 0), -1);
        checks.due("the least lead", with(0, 1, "s1;a0>0:1;a0>0:1;").lead(0, 0), 1);
    }

    private static void keptOrNot() {
        checks.sentence(11, "Returns the lead of a dependence, whether it is kept or not.");
        DoacrossScheduler x = Checks.made("s1;f0>0:1;f0>0:3;");
        checks.due("kept", x.lead(1, 0), 6);
        x.eliminate(0);
        checks.due("it is not kept any more", x.dependence(1, 5), 0);
        checks.due("not kept", x.lead(1, 0), 6);
        checks.due("the other one", x.lead(0, 0), -1);
    }

    private static void otherDependences() {
        checks.sentence(11, "for each other dependence that is kept and has a distance e greater than 0");
        DoacrossScheduler x = Checks.made("s1;f0>0:2;");
        checks.due("its own edges do not count", x.lead(0, 0), -1);
        Checks.run(x, "f0>0:2;");
        checks.due("those of an equal one do", x.lead(0, 0), 2);
        checks.due("and the other way round", x.lead(1, 0), 2);
        DoacrossScheduler y = Checks.made("s9;s1;f0>1:1;f1>0:1;f0>1:3;");
        // Four times the body, and f1>0:1 three times between.
        checks.due("others in turn with the body", y.lead(2, 0), 9 + 2 + 9 + 2 + 9 + 2 + 9);
        // The body, f1>0:1 and the body.
        checks.due("its own edge is no part of a path", y.lead(0, 0), 9 + 2 + 9);
    }

    private static void onlyKeptOnes() {
        checks.sentence(11, "in the graph whose nodes are the statements in the iterations 0 to d, and whose edges are: from "
            + "each statement to the one at the next position in the same iteration, with the cost of the former as "
            + "weight; for each other dependence that is kept");
        DoacrossScheduler x = Checks.made("s1;f0>0:1;a0>0:1;");
        checks.due("both are kept", x.lead(0, 0) * 10 + x.lead(1, 0), 22);
        checks.due("one goes", x.eliminate(0), 1);
        checks.due("an edge that is not kept does not count", x.lead(0, 0), -1);
        checks.due("one that is kept does", x.lead(1, 0), 2);
        x.keepAll();
        checks.due("it is kept anew", x.lead(0, 0), 2);
    }

    private static void onlyGreaterDistances() {
        checks.sentence(11, "Dependences with the distance 0 need no signal.");
        DoacrossScheduler x = with(5, 2, "s1;s1;s1;f0>2:0;f0>1:0;f0>2:1;a2>2:1;");
        // From 0 by the body to 2, and on by a2>2:1; the lag 6 of f0>2:0 adds no edge.
        checks.due("only the body counts", x.lead(2, 0), 1 + 1 + 6);
    }

    private static void iterationsUpToTheDistance() {
        checks.sentence(11, "whose nodes are the statements in the iterations 0 to d");
        for (int distance = 1; distance <= 5; distance++) {
            for (int other = 1; other <= 5; other++) {
                DoacrossScheduler x = Checks.made("s1;s3;a0>1:" + distance + ";f0>0:" + other + ";");
                int want = distance % other == 0 ? distance / other * 2 + 1 : -1;
                checks.due("the distance " + distance + " by steps of " + other, x.lead(0, 0), want);
            }
        }
    }

    private static void bodyEdges() {
        checks.sentence(11, "from each statement to the one at the next position in the same iteration, with the cost of "
            + "the former as weight");
        DoacrossScheduler x = Checks.made("s2;s9;s4;f0>2:1;f0>0:1;");
        checks.due("the costs before the target, not its own", x.lead(0, 0), 3 + 2 + 9);
        x.exchange(1);
        checks.due("by positions, not numbers", x.lead(0, 0), 3 + 2);
        x.exchange(0);
        checks.due("never to a lower position", x.lead(0, 0), -1);
        DoacrossScheduler y = Checks.made(EIGHT, "f0>7:1;a7>0:1;");
        checks.due("from the first to the last of eight, and again", y.lead(0, 0), 63 + 2 + 63);
        checks.due("no way from the last one on", y.lead(1, 0), -1);
    }

    private static void processorEdges() {
        checks.sentence(11, "in mode 1, from the statement at the last position of each iteration i to the one at position 0 "
            + "of iteration i + p, where p is the number of processors, with the cost of the former as weight");
        for (int distance = 1; distance <= 5; distance++) {
            for (int processors = 1; processors <= 6; processors++) {
                DoacrossScheduler x = with(1, processors, "s2;s3;f0>1:" + distance + ";f1>0:" + distance + ";");
                x.remove(1);
                boolean meets = distance % processors == 0;
                checks.due("the distance " + distance + " on " + processors, x.lead(0, 1),
                    meets ? distance / processors * 5 + 2 : -1);
                DoacrossScheduler y = with(1, processors, "s4;a0>0:" + distance + ";");
                checks.due("one statement, " + distance + " on " + processors, y.lead(0, 1),
                    meets ? distance / processors * 4 : -1);
                DoacrossScheduler z = with(1, processors, "s2;s3;s9;a2>0:" + distance + ";");
                checks.due("from the last to the first, " + distance + " on " + processors, z.lead(0, 1),
                    meets ? distance / processors * 14 - 5 : -1);
            }
        }
        DoacrossScheduler x = with(1, 2, "s2;s3;s9;a2>0:2;");
        x.exchange(1);
        x.exchange(0);
        // The order is 2, 0, 1: from 2 by 0 and 1 to 2 in the iteration 2, and on to 0.
        checks.due("by positions", x.lead(0, 1), 9 + 2 + 3 + 9);
    }

    private static void noProcessorEdges() {
        checks.sentence(11, "In mode 0 there are no edges of the last sort.");
        for (int processors = 1; processors <= 6; processors++) {
            checks.due("on " + processors, with(1, processors, "s2;s3;f0>1:4;").lead(0, 0), -1);
        }
        DoacrossScheduler x = with(0, 1, "s9;a0>0:2;a0>0:1;");
        checks.due("only signals", x.lead(0, 0), 2);
        checks.due("processors as well", x.lead(0, 1), 18);
    }

    private static void sameForAllAssignments() {
        checks.sentence(11, "The edges of mode 1 are the same for all assignments.");
        DoacrossScheduler x = with(1, 3, "s2;s3;f0>1:3;f1>1:2;");
        for (int assignment = 0; assignment < 3; assignment++) {
            x.set(3, assignment);
            checks.due("assignment " + assignment, x.lead(0, 1), 7);
            checks.due("assignment " + assignment + ", the other one", x.lead(1, 1), -1);
        }
        x.set(0, 1);
        checks.due("nor does the number of iterations count", x.lead(0, 1), 7);
    }

    private static void greatestOfPaths() {
        checks.sentence(11, "is the greatest sum of the weights of a path, if there is one, from the source in iteration 0 to "
            + "the target in iteration d");
        DoacrossScheduler x = with(0, 2, "s9;a0>0:1;o0>0:2;f0>0:2;");
        checks.due("one long edge: 9, two short ones: 2", x.lead(1, 0), 9);
        checks.due("two short ones: 2, one long edge: 1", x.lead(2, 0), 2);
        DoacrossScheduler y = with(0, 2, "s9;o0>0:2;f0>0:2;a0>0:1;");
        checks.due("the same in another order", y.lead(0, 0) * 10 + y.lead(1, 0), 92);
        DoacrossScheduler z = with(5, 1, EIGHT, "f0>7:5;f7>0:1;");
        checks.due("the greatest of all leads", z.lead(0, 1), 5 * (63 + 14) + 63);
    }

    private static void missingModeOfEliminate() {
        checks.sentence(12, "Throws `IllegalArgumentException` if there is no such mode");
        DoacrossScheduler x = with(0, 1, "s1;f0>0:1;f0>0:2;");
        for (int mode : new int[] {2, 3, -1, MIN, MAX}) {
            checks.dueThrow("eliminate(" + mode + ")", ARGUMENT, () -> x.eliminate(mode));
            checks.due("both are kept", kept(x), "11");
        }
        checks.due("the mode 0", x.eliminate(0), 1);
        checks.due("the mode 1", x.eliminate(1), 1);
        DoacrossScheduler none = new DoacrossScheduler();
        checks.dueThrow("also without dependences", ARGUMENT, () -> none.eliminate(2));
    }

    private static void asMuchAsTheLag() {
        checks.sentence(12, "A dependence is implied if it has a lead that is at least its lag.");
        // Two steps of a0>0:1 have the sum 2 + 2 * latency; the lag of f0>0:2 is the cost plus the latency.
        for (int latency = 0; latency <= 5; latency++) {
            for (int cost = 1; cost <= 9; cost++) {
                DoacrossScheduler x = with(latency, 2, "s" + cost + ";f0>0:2;a0>0:1;");
                checks.due("latency " + latency + ", cost " + cost, x.eliminate(0), 2 + latency >= cost ? 1 : 0);
            }
        }
        DoacrossScheduler y = with(0, 2, "s4;f0>0:2;");
        checks.due("mode 1, as much", y.eliminate(1), 1);
        DoacrossScheduler z = with(1, 2, "s4;f0>0:2;");
        checks.due("mode 1, one less", z.eliminate(1), 0);
        DoacrossScheduler none = with(0, 2, "s1;a0>0:1;");
        checks.due("no lead", none.eliminate(1), 0);
    }

    private static void descendingDistances() {
        checks.sentence(12, "are considered in the order of descending distances");
        DoacrossScheduler x = Checks.made("s1;f0>0:1;f0>0:2;f0>0:3;f0>0:4;f0>0:5;");
        checks.due("the shortest implies all others", x.eliminate(0), 4);
        checks.due("it stays", kept(x), "00001");
        DoacrossScheduler y = Checks.made("s1;f0>0:5;f0>0:4;f0>0:3;f0>0:2;f0>0:1;");
        checks.due("whatever the numbers", y.eliminate(0), 4);
        checks.due("it stays", kept(y), "10000");
        DoacrossScheduler z = Checks.made("s1;f0>0:5;f0>0:3;f0>0:2;");
        checks.due("5 is 3 and 2", z.eliminate(0), 1);
        checks.due("3 is not 2 and 2", kept(z), "110");
    }

    private static void descendingNumbers() {
        checks.sentence(12, "among ties of descending numbers");
        for (String kinds : new String[] {"fao", "oaf", "aof"}) {
            StringBuilder text = new StringBuilder("s1;");
            for (char kind : kinds.toCharArray()) {
                text.append(kind).append("0>0:1;");
            }
            DoacrossScheduler x = Checks.made(text.toString());
            checks.due("three that imply one another, " + kinds, x.eliminate(0), 2);
            checks.due("the lowest number stays, " + kinds, kept(x), "001");
        }
        DoacrossScheduler full = Checks.made("s1;" + SEVEN_ANTI, SEVEN_ANTI, "a0>0:1;a0>0:1;");
        checks.due("sixteen that imply one another", full.eliminate(0), 15);
        checks.due("the lowest number stays", full.dependence(0, 5), 1);
    }

    private static void impliedAtThatTime() {
        checks.sentence(12, "each that is implied at that time is no longer kept");
        DoacrossScheduler x = Checks.made("s1;s1;f0>1:2;f0>1:2;");
        checks.due("each implies the other", Math.min(x.lead(0, 0), x.lead(1, 0)), 2);
        checks.due("the second one goes, and does not imply the first any more", x.eliminate(0), 1);
        checks.due("the first one stays", kept(x), "01");
        // The lag 2 of the first one is less than the lag 4 of the second one, which it does not imply.
        DoacrossScheduler y = Checks.made("s3;a0>0:1;f0>0:1;");
        checks.due("the higher number is not implied", y.eliminate(0), 1);
        checks.due("the lower one is", kept(y), "10");
    }

    private static void onlyThoseThatAreKept() {
        checks.sentence(12, "the dependences that are kept and have a distance greater than 0 are considered");
        DoacrossScheduler x = Checks.made("s1;s1;f0>1:0;f0>0:1;f0>0:2;");
        checks.due("eliminate(0)", x.eliminate(0), 1);
        checks.due("those that are not kept are not considered again", x.eliminate(0), 0);
        checks.due("what is kept", kept(x), "011");
        Checks.run(x, "f0>0:4;");
        checks.due("only the new one", x.eliminate(0), 1);
        checks.due("what is kept", kept(x), "0011");
    }

    private static void eliminatedNumber() {
        checks.sentence(12, "Returns the number of dependences that are no longer kept.");
        checks.due("no dependences, mode 0", new DoacrossScheduler().eliminate(0), 0);
        checks.due("no dependences, mode 1", new DoacrossScheduler().eliminate(1), 0);
        DoacrossScheduler x = with(0, 1, "s1;f0>0:1;f0>0:2;f0>0:5;");
        checks.due("all but the shortest", x.eliminate(0), 2);
        checks.due("none more", x.eliminate(0), 0);
        checks.due("the last one by the processor", x.eliminate(1), 1);
        checks.due("none is left", x.eliminate(1), 0);
    }

    private static void distanceZeroIsNotEliminated() {
        checks.sentence(12, "it does not count among those that are eliminated or kept anew");
        DoacrossScheduler x = with(0, 1, "s1;s1;a0>1:0;a0>1:0;a0>1:1;");
        checks.due("eliminate(0)", x.eliminate(0), 0);
        checks.due("eliminate(1), the body alone would do", x.eliminate(1), 1);
        checks.due("what is kept", kept(x), "011");
        checks.due("keepAll()", x.keepAll(), 1);
        checks.due("again", x.keepAll(), 0);
    }

    private static void makesAllKept() {
        checks.sentence(13, "Makes all dependences kept.");
        DoacrossScheduler x = Checks.made("s1;" + SEVEN_ANTI, SEVEN_ANTI, "a0>0:1;a0>0:1;");
        x.eliminate(0);
        checks.due("before", kept(x), "0000000000000001");
        checks.due("keepAll()", x.keepAll(), 15);
        checks.due("afterwards", kept(x), "1111111111111111");
        checks.due("they are signals again", x.signals(), 16 * 9);
    }

    private static void keptAnewNumber() {
        checks.sentence(13, "Returns the number of dependences that were not kept.");
        checks.due("no dependences", new DoacrossScheduler().keepAll(), 0);
        DoacrossScheduler x = Checks.made("s1;s1;f0>1:0;f0>0:1;f0>0:2;f0>0:3;");
        checks.due("all are kept", x.keepAll(), 0);
        x.eliminate(0);
        x.remove(3);
        checks.due("one of two that were not kept is removed", x.keepAll(), 1);
        checks.due("now all are kept", x.keepAll(), 0);
    }

    private static void missingStatement() {
        checks.sentence(14, "Throws `IndexOutOfBoundsException` if there is no such statement");
        DoacrossScheduler x = Checks.made("s1;s1;f0>1:0;");
        for (int statement : new int[] {2, 8, 31, 32, 33, -1, MIN, MAX}) {
            checks.dueThrow("precedes(" + statement + ", 1)", INDEX, () -> x.precedes(statement, 1) ? 1 : 0);
            checks.dueThrow("precedes(0, " + statement + ")", INDEX, () -> x.precedes(0, statement) ? 1 : 0);
            checks.dueThrow("neither", INDEX, () -> x.precedes(statement, statement) ? 1 : 0);
        }
        checks.due("the last one", x.precedes(0, 1), true);
        DoacrossScheduler y = Checks.made(EIGHT, "f6>7:0;");
        checks.due("the last of eight", y.precedes(6, 7), true);
        checks.dueThrow("precedes(6, 8)", INDEX, () -> y.precedes(6, 8) ? 1 : 0);
    }

    private static void sequenceOfDependences() {
        checks.sentence(14, "the target of each but the last one being the source of the next one");
        DoacrossScheduler x = Checks.made(EIGHT, "f6>7:0;a4>5:0;o2>3:0;f0>1:0;", "a1>2:0;o3>4:0;f5>6:0;");
        for (int first = 0; first < 8; first++) {
            for (int second = 0; second < 8; second++) {
                checks.due("precedes(" + first + ", " + second + ")", x.precedes(first, second), first < second);
            }
        }
        x.remove(5);
        for (int first = 0; first < 8; first++) {
            for (int second = 0; second < 8; second++) {
                boolean sameSide = first <= 3 == second <= 3;
                checks.due("3 before 4 is removed, precedes(" + first + ", " + second + ")", x.precedes(first, second),
                    first < second && sameSide);
            }
        }
    }

    private static void oneOrMoreInSequence() {
        checks.sentence(14, "there is a sequence of one or more dependences with the distance 0");
        DoacrossScheduler x = Checks.made("s1;s1;s1;f0>1:0;f1>2:1;f2>2:1;f0>2:5;");
        checks.due("one", x.precedes(0, 1), true);
        checks.due("a statement does not precede itself", x.precedes(0, 0), false);
        checks.due("nor by a dependence with the distance 1", x.precedes(2, 2), false);
        checks.due("a greater distance is no part of it", x.precedes(1, 2) || x.precedes(0, 2), false);
        checks.due("nor is the way back", x.precedes(1, 0), false);
        checks.due("a lower position alone is not enough", Checks.made("s1;s1;").precedes(0, 1), false);
    }

    private static void noSuchDependence() {
        checks.sentence(15, "Returns the delay, 0 if there is no such dependence.");
        checks.due("a new object", new DoacrossScheduler().delay(), 0);
        checks.due("no dependences", Checks.made("s9;").delay(), 0);
        checks.due("only the distance 0", Checks.made("s9;s9;f0>1:0;").delay(), 0);
        DoacrossScheduler x = with(0, 1, "s1;f0>0:1;");
        checks.due("a kept one", x.delay(), 1);
        x.eliminate(1);
        checks.due("none that is kept", x.delay(), 0);
    }

    private static void fromZeroOn() {
        checks.sentence(15, "the least integer D from 0 on");
        // The source is 5 - 2 before the target: the lag is 2 + latency.
        for (int latency = 0; latency <= 5; latency++) {
            checks.due("latency " + latency, with(latency, 2, "s2;s3;s1;f0>2:1;").delay(), Math.max(0, latency - 3));
            checks.due("latency " + latency + ", the distance 2", with(latency, 2, "s2;s3;s1;f0>2:2;").delay(),
                latency <= 3 ? 0 : 1);
        }
        checks.due("far below 0", Checks.made(EIGHT, "a0>7:1;").delay(), 0);
    }

    private static void atLeast() {
        checks.sentence(15, "D * d is at least the offset of the source plus the lag minus the offset of the target");
        for (int distance = 1; distance <= 5; distance++) {
            for (int latency = 0; latency <= 5; latency++) {
                int demanded = 5 + 4 + latency;
                int delay = 0;
                while (delay * distance < demanded) {
                    delay++;
                }
                DoacrossScheduler x = with(latency, 2, "s5;s4;f1>0:" + distance + ";");
                checks.due("the distance " + distance + " and " + demanded, x.delay(), delay);
            }
        }
        checks.due("the greatest", with(5, 2, EIGHT, "f7>0:1;").delay(), 63 + 14);
        checks.due("the greatest over the distance 5", with(5, 2, EIGHT, "f7>0:5;").delay(), 16);
        checks.due("every one of them", Checks.made("s1;s2;a0>0:1;f1>0:1;a1>0:1;").delay(), 4);
    }

    private static void delayOfKept() {
        checks.sentence(15, "for every kept dependence with a distance d greater than 0");
        // The processor alone keeps f1>0:2 of two processors; a1>0:1 is enforced by no one.
        DoacrossScheduler x = with(0, 2, "s5;s4;f1>0:2;a1>0:1;");
        checks.due("both", x.delay(), 6);
        checks.due("one is eliminated", x.eliminate(1), 1);
        checks.due("the other one is left", kept(x), "10");
        x.remove(1);
        checks.due("what is not kept does not count", x.delay(), 0);
        x.keepAll();
        checks.due("it is kept anew", x.delay(), 5);
    }

    private static void noCritical() {
        checks.sentence(16, "Returns the dependence, or -1 if there is none.");
        checks.due("a new object", new DoacrossScheduler().critical(), -1);
        checks.due("only the distance 0", Checks.made("s1;s1;f0>1:0;").critical(), -1);
        checks.due("the delay 0", with(3, 2, "s2;s3;s1;f0>2:1;").critical(), -1);
        checks.due("the delay 1", with(4, 2, "s2;s3;s1;f0>2:1;").critical(), 0);
        checks.due("two that demand as much", Checks.made("s1;f0>0:1;a0>0:1;").critical(), -1);
        // 5 over the distance 1, and 9 over the distance 2: both need 5.
        DoacrossScheduler x = with(0, 2, "s5;s4;f0>0:1;f1>0:2;");
        checks.due("as much, rounded up", x.critical(), -1);
        x.set(1, 2);
        checks.due("7 over 1 and 11 over 2", x.critical(), 0);
    }

    private static void lessWithout() {
        checks.sentence(16, "the one with the lowest number without which, as long as all others are kept, the delay would "
            + "be less");
        for (int place = 0; place < 16; place++) {
            StringBuilder first = new StringBuilder("s9;");
            StringBuilder second = new StringBuilder();
            for (int d = 0; d < 16; d++) {
                (d < 8 ? first : second).append(d == place ? "f0>0:1;" : "a0>0:1;");
            }
            DoacrossScheduler x = Checks.made(first.toString(), second.toString());
            checks.due("the number " + place + " of sixteen", x.critical(), place);
        }
        DoacrossScheduler y = Checks.made("s1;s1;f0>1:0;a0>0:1;f0>1:0;f1>0:1;");
        checks.due("the numbers of the distance 0 count", y.critical(), 3);
        y.remove(0);
        checks.due("a number less", y.critical(), 2);
    }

    private static void staysNotKept() {
        checks.sentence(16, "A dependence is critical with the others as they are, those that are no longer kept staying so.");
        DoacrossScheduler x = Checks.made("s4;a0>0:1;f0>0:1;f0>0:1;");
        checks.due("two that demand as much", x.critical(), -1);
        checks.due("eliminate(0)", x.eliminate(0), 2);
        checks.due("what is kept", kept(x), "010");
        checks.due("the one that is left", x.critical(), 1);
        checks.due("asking changes nothing", kept(x), "010");
        x.remove(1);
        checks.due("those that are not kept are not critical", x.critical(), -1);
        x.keepAll();
        checks.due("kept anew", x.critical(), 1);
    }

    private static DoacrossScheduler line(int statements) {
        DoacrossScheduler x = new DoacrossScheduler();
        for (int s = 0; s < statements; s++) {
            Checks.run(x, "s1;");
        }
        return x;
    }

    private static void tooManyForLeastDelay() {
        checks.sentence(17, "Throws `UnsupportedOperationException` if there are more than 6 statements");
        for (int statements = 0; statements <= 8; statements++) {
            DoacrossScheduler x = line(statements);
            String want = statements > 6 ? "throws.UnsupportedOperationException" : "0";
            checks.due(statements + " statements", Checks.outcome(x::leastDelay), want);
            if (statements > 0) {
                // From the last one to the first: in the best order they change places, and the lag is 2.
                Checks.run(x, "f" + (statements - 1) + ">0:1;");
                want = statements > 6 ? want : statements == 1 ? "2" : statements == 2 ? "1" : "0";
                checks.due(statements + " statements, a signal", Checks.outcome(x::leastDelay), want);
            }
        }
    }

    private static void tooManyForReorder() {
        checks.sentence(18, "Throws `UnsupportedOperationException` if there are more than 6 statements");
        for (int statements = 0; statements <= 8; statements++) {
            DoacrossScheduler x = line(statements);
            for (int position = 0; position + 1 < statements; position++) {
                x.exchange(position);
            }
            int before = order(x);
            if (statements > 6) {
                checks.dueThrow(statements + " statements", UNSUPPORTED, x::reorder);
                checks.due("the order is as it was", order(x), before);
            } else {
                checks.due(statements + " statements", x.reorder(), statements > 1 ? statements : 0);
                checks.due("again", x.reorder(), 0);
            }
        }
        DoacrossScheduler six = Checks.made("s1;s1;s1;s1;s1;s9;f5>0:1;f4>5:0;");
        // 4 before 5, and 5 at least ten cycles before 0.
        checks.due("six statements", six.reorder(), 6);
        checks.due("their order", order(six), 124530);
    }

    private static void everyOrder() {
        checks.sentence(17, "Returns the least delay of all orders of the statements");
        for (int statements = 1; statements <= 6; statements++) {
            eachOrder("", "012345".substring(0, statements));
        }
    }

    /** Makes each order that begins with what is begun and ends with the rest the only one that is allowed. */
    private static void eachOrder(String begun, String rest) {
        if (rest.isEmpty()) {
            onlyOrder(begun);
        }
        for (int next = 0; next < rest.length(); next++) {
            eachOrder(begun + rest.charAt(next), rest.substring(0, next) + rest.substring(next + 1));
        }
    }

    private static void onlyOrder(String wanted) {
        int last = wanted.length() - 1;
        DoacrossScheduler x = Checks.made("s1;s2;s3;s4;s5;s6;".substring(0, 3 * wanted.length()));
        for (int place = 0; place <= last; place++) {
            for (int at = x.statement(wanted.charAt(place) - '0', 1); at > place; at--) {
                x.exchange(at - 1);
            }
        }
        for (int place = 0; place < last; place++) {
            Checks.run(x, "f" + wanted.charAt(place) + ">" + wanted.charAt(place + 1) + ":0;");
        }
        Checks.run(x, "f0>" + last + ":1;f" + last + ">0:1;");
        checks.due("leastDelay() of " + wanted, x.leastDelay(), x.delay());
        checks.due("reorder() of " + wanted, x.reorder(), 0);
        checks.due("the order " + wanted, order(x), Integer.parseInt(wanted));
    }

    private static void ordersThatAreAllowed() {
        checks.sentence(17, "in which, for every dependence with the distance 0, the source stands before the target");
        DoacrossScheduler x = Checks.made("s1;s5;f0>1:0;f1>0:1;");
        checks.due("only one order", x.leastDelay(), 7);
        checks.due("it is the order", x.reorder(), 0);
        x.remove(0);
        checks.due("two orders", x.leastDelay(), 1);
        checks.due("the other one", x.reorder(), 2);
        DoacrossScheduler last = Checks.made("s1;s2;s3;f0>2:1;");
        last.exchange(0);
        last.exchange(1);
        last.exchange(0);
        Checks.run(last, "f2>1:0;f1>0:0;");
        checks.due("the last order of all", last.leastDelay(), 5 + 2);
        checks.due("it stays", last.reorder(), 0);
        checks.due("2, 1, 0", order(last), 210);
    }

    private static void orderStays() {
        checks.sentence(17, "The order does not change.");
        DoacrossScheduler x = Checks.made("s1;s5;s2;f1>0:1;f2>1:1;");
        x.exchange(1);
        int before = x.delay();
        checks.due("leastDelay()", x.leastDelay() < before, true);
        checks.due("the order", order(x), 21);
        checks.due("the delay", x.delay(), before);
        checks.due("the offset", x.statement(1, 2), 3);
    }

    private static void lexicographicallyFirst() {
        checks.sentence(18, "of the orders of leastDelay with the least delay, the lexicographically first one, as a sequence "
            + "of statements by positions, becomes the order");
        DoacrossScheduler x = Checks.made("s4;s1;s4;f2>0:1;o0>2:2;");
        // 1, 2, 0 and 2, 0, 1 have the delay 3; by the positions of 0, 1 and 2 the latter would be the first.
        checks.due("the least delay", x.leastDelay(), 3);
        checks.due("reorder()", x.reorder(), 3);
        checks.due("the sequence by positions", order(x), 120);
        checks.due("the delay", x.delay(), 3);
        DoacrossScheduler y = Checks.made("s1;s1;s1;s1;");
        y.exchange(2);
        y.exchange(1);
        y.exchange(0);
        checks.due("all are as good: not the order that stands", y.reorder(), 4);
        checks.due("the order of the numbers", order(y), 123);
        DoacrossScheduler z = Checks.made("s1;s1;s1;s1;a2>3:0;");
        z.exchange(0);
        checks.due("as good, in another order", z.reorder(), 2);
        checks.due("the order of the numbers", order(z), 123);
    }

    private static void changedPositions() {
        checks.sentence(18, "Returns the number of statements whose position changes.");
        checks.due("no statements", new DoacrossScheduler().reorder(), 0);
        checks.due("one statement", Checks.made("s9;f0>0:1;").reorder(), 0);
        DoacrossScheduler x = Checks.made("s1;s1;s1;");
        checks.due("none", x.reorder(), 0);
        x.exchange(1);
        checks.due("two next to each other", x.reorder(), 2);
        x.exchange(0);
        x.exchange(1);
        x.exchange(0);
        checks.due("the one in the middle stays", x.reorder(), 2);
        x.exchange(0);
        x.exchange(1);
        checks.due("all three", x.reorder(), 3);
        DoacrossScheduler y = Checks.made("s1;s1;");
        y.save();
        Checks.run(y, "s1;s1;f3>0:1;");
        y.exchange(2);
        y.reorder();
        y.restore();
        checks.due("two statements again", y.reorder(), 0);
    }
}
