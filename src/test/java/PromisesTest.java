/** Every promise by its number, with answers worked out by hand from the document. */
public final class PromisesTest {
    private static final Class<IllegalArgumentException> ARGUMENT = IllegalArgumentException.class;
    private static final Class<IllegalStateException> STATE = IllegalStateException.class;
    private static final Class<IndexOutOfBoundsException> INDEX = IndexOutOfBoundsException.class;
    private static final Class<UnsupportedOperationException> UNSUPPORTED = UnsupportedOperationException.class;
    private static final int MIN = Integer.MIN_VALUE;
    private static final int MAX = Integer.MAX_VALUE;
    private static final int[] BEYOND = {-1, MIN, MAX};

    private static final Checks checks = new Checks();

    public static void main(String[] args) {
        promise1NewObject();
        promise2Append();
        promise2Limit();
        promise3Execute();
        promise4ErrorPosition();
        promise4TooMany();
        promise4PositionsInText();
        promise5SetCost();
        promise6Set();
        promise7Exchange();
        promise8Remove();
        promise9Statement();
        promise10Dependence();
        promise11Lead();
        promise11LeadModes();
        promise12Eliminate();
        promise12Order();
        promise13KeepAll();
        promise14Precedes();
        promise15Delay();
        promise16Critical();
        promises17And18Orders();
        promises17And18Limits();
        promises17And18LastOrder();
        promise19Length();
        promise20Start();
        promise21Processor();
        promise21Greedy();
        promise22Total();
        promises23And24FillAndDrain();
        promise25SpeedUp();
        promise26BestProcessors();
        promise27Signals();
        promise28Violated();
        promises29And30SaveAndRestore();
        promise31Count();
        checks.end();
    }

    private static void promise1NewObject() {
        DoacrossScheduler x = new DoacrossScheduler();
        int[] what = {0, 1, 2, 3, 4, 10, 11, 12, 13};
        int[] want = {0, 0, 0, 0, 0, 10, 1, 2, 0};
        for (int i = 0; i < what.length; i++) {
            checks.due("1: count(" + what[i] + ")", x.count(what[i]), want[i]);
        }
        checks.due("1: errorPosition()", x.errorPosition(), -1);
        checks.dueThrow("1: restore()", STATE, x::restore);
        DoacrossScheduler y = Checks.made("s5;f0>0:1;");
        checks.due("1: two objects share nothing", x.count(0) + x.count(1), 0);
        checks.due("1: the other has its own", y.count(0) + y.count(1), 2);
    }

    private static void promise2Append() {
        DoacrossScheduler x = new DoacrossScheduler();
        checks.due("2: no characters", x.append(0), 0);
        checks.due("2: bytes that are 0 are skipped", x.append('s' << 24 | '4' << 8), 2);
        checks.due("2: one character, last byte", x.append(';'), 3);
        checks.due("2: then execute()", x.execute(), 1);
        checks.due("2: then the cost", x.statement(0, 0), 4);
        int[] wrong = {32, 127, 128, 255, 1};
        for (int character : wrong) {
            for (int shift = 0; shift < 32; shift += 8) {
                int packed = character << shift;
                checks.dueThrow("2: append(" + packed + ")", ARGUMENT, () -> x.append(packed));
            }
        }
        checks.dueThrow("2: a wrong byte behind good ones", ARGUMENT, () -> x.append('s' << 24 | '1' << 16 | 32));
        checks.dueThrow("2: append(-1)", ARGUMENT, () -> x.append(-1));
        checks.due("2: nothing was appended", x.count(3), 0);
        checks.due("2: 33 and 126", x.append(33 << 24 | 126 << 16 | 33 << 8 | 126), 4);
    }

    private static void promise2Limit() {
        DoacrossScheduler x = new DoacrossScheduler();
        int full = '!' << 24 | '!' << 16 | '!' << 8 | '!';
        for (int i = 1; i <= 14; i++) {
            checks.due("2: append " + i, x.append(full), 4 * i);
        }
        checks.due("2: 58", x.append('!' << 8 | '!'), 58);
        checks.dueThrow("2: 62", STATE, () -> x.append(full));
        checks.dueThrow("2: 61", STATE, () -> x.append('!' << 16 | '!' << 8 | '!'));
        checks.due("2: the limit left all as it was", x.count(3), 58);
        checks.due("2: 60", x.append('!' << 24 | '!'), 60);
        checks.due("2: none more", x.append(0), 60);
        checks.dueThrow("2: one more", STATE, () -> x.append('!'));
        checks.dueThrow("2: one more and wrong", ARGUMENT, () -> x.append(' '));
        checks.dueThrow("2: the text is wrong", ARGUMENT, x::execute);
        checks.due("2: room again", x.append(full), 4);
    }

    private static void promise3Execute() {
        DoacrossScheduler x = new DoacrossScheduler();
        Checks.write(x, "s2;s3;f0>1:0;a1>0:2;o1>1:5;");
        checks.due("3: execute()", x.execute(), 5);
        checks.due("3: the buffer is empty", x.count(3), 0);
        int[][] want = {{0, 0, 1, 0}, {1, 1, 0, 2}, {2, 1, 1, 5}};
        for (int d = 0; d < want.length; d++) {
            for (int what = 0; what < 4; what++) {
                checks.due("3: dependence(" + d + ", " + what + ")", x.dependence(d, what), want[d][what]);
            }
        }
        Checks.write(x, "s9;f0>2:1;s0;");
        checks.dueThrow("3: an error behind good commands", ARGUMENT, x::execute);
        checks.due("3: no command was executed", x.count(0) * 10 + x.count(1), 23);
        checks.due("3: the buffer is empty after an error", x.count(3), 0);
        checks.dueThrow("3: an empty text", ARGUMENT, x::execute);
        Checks.write(x, "s9;");
        checks.due("3: execute() after errors", x.execute(), 1);
        checks.due("3: the new one stands last", x.statement(2, 1), 2);
        DoacrossScheduler y = new DoacrossScheduler();
        Checks.write(y, "s1;s2;s3;s4;s5;s6;s7;s8;f0>7:0;f7>0:5;a3>3:1;o6>5:4;f1>2:0;f");
        checks.due("3: a text of 60", y.count(3), 60);
        checks.dueThrow("3: a text of 60 that ends too early", ARGUMENT, y::execute);
        checks.due("3: its error", y.errorPosition(), 60);
    }

    private static void promise4ErrorPosition() {
        String[] texts = {"", "x", "1", "S1;", "s", "s0;", "sa", "s;", "s1", "s1:", "s12", "s1;s", "s1;x", "s1;;", "f",
            "fx", "f>", "f2>", "f9", "f0", "f0-", "f00", "f0>", "f0>2", "f0>x", "f0>1", "f0>1;", "f0>1:", "f0>1:6",
            "f0>1:9;", "f0>1:x", "f0>1:;", "f0>1:1", "f0>1:1x", "f0>1:12", "f0>0:0", "f1>0:0;", "a1>1:0;", "o1>0:0x",
            "f0>1:0;o0>1:1;a9", "g0>1:1;", "s1;f3>0:1;", "f2>0:1;s1;", "s1;s1;f3>2:0;"};
        int[] want = {0, 0, 0, 0, 1, 1, 1, 1, 2, 2, 2, 4, 3, 3, 1,
            1, 1, 1, 1, 2, 2, 2, 3, 3, 3, 4, 4, 5, 5,
            5, 5, 5, 6, 6, 6, 5, 5, 5, 5,
            15, 0, 4, 1, 11};
        for (int i = 0; i < texts.length; i++) {
            DoacrossScheduler x = Checks.made("s2;s3;");
            Checks.write(x, texts[i]);
            checks.dueThrow("4: the text " + texts[i], ARGUMENT, x::execute);
            checks.due("4: the error in " + texts[i], x.errorPosition(), want[i]);
            checks.due("4: nothing done by " + texts[i], x.count(0) * 10 + x.count(1), 20);
            Checks.write(x, "s1");
            checks.due("4: append leaves the error of " + texts[i], x.errorPosition(), want[i]);
            Checks.write(x, ";");
            checks.due("4: a good text after " + texts[i], x.execute(), 1);
            checks.due("4: no error any more after " + texts[i], x.errorPosition(), -1);
        }
    }

    private static void promise4TooMany() {
        String[] texts = {"s", "s1;", "sx", "s0;"};
        for (String text : texts) {
            DoacrossScheduler x = Checks.made("s1;s1;s1;s1;s1;s1;s1;");
            Checks.write(x, "s1;" + text);
            checks.dueThrow("4: the ninth statement, " + text, ARGUMENT, x::execute);
            checks.due("4: its first character, " + text, x.errorPosition(), 3);
            checks.due("4: no eighth one either, " + text, x.count(0), 7);
        }
        String[] kinds = {"f", "a0>0:1;", "o9", "f0>0:0;"};
        for (String text : kinds) {
            DoacrossScheduler x = Checks.made("s1;f0>0:1;f0>0:1;f0>0:1;f0>0:1;f0>0:1;f0>0:1;f0>0:1;f0>0:1;",
                "f0>0:1;f0>0:1;f0>0:1;f0>0:1;f0>0:1;f0>0:1;f0>0:1;");
            Checks.write(x, "o0>0:5;" + text);
            checks.dueThrow("4: the 17th dependence, " + text, ARGUMENT, x::execute);
            checks.due("4: its first character, " + text, x.errorPosition(), 7);
            Checks.write(x, "o0>0:5;s1;");
            checks.due("4: the 16th dependence and a statement", x.execute(), 2);
            checks.due("4: all of them", x.count(1), 16);
        }
    }

    private static void promise4PositionsInText() {
        DoacrossScheduler x = Checks.made("s2;s3;");
        x.exchange(0);
        Checks.write(x, "f0>1:0;");
        checks.dueThrow("4: positions decide, not numbers", ARGUMENT, x::execute);
        checks.due("4: at the distance", x.errorPosition(), 5);
        Checks.write(x, "f1>0:0;s1;f0>2:0;");
        checks.due("4: statements that the text added have positions", x.execute(), 3);
        Checks.write(x, "s1;f3>2:0;");
        checks.dueThrow("4: the last added one stands last", ARGUMENT, x::execute);
        checks.due("4: at the distance again", x.errorPosition(), 8);
    }

    private static void promise5SetCost() {
        DoacrossScheduler x = Checks.made("s2;s3;f0>1:1;");
        checks.due("5: setCost(0, 9)", x.setCost(0, 9), 2);
        checks.due("5: setCost(0, 1)", x.setCost(0, 1), 9);
        checks.due("5: the cost", x.statement(0, 0), 1);
        checks.due("5: the other cost", x.statement(1, 0), 3);
        checks.due("5: the lag follows", x.dependence(0, 4), 2);
        checks.due("5: the offset follows", x.statement(1, 2), 1);
        for (int cost : new int[] {0, 10, -1, MIN, MAX}) {
            checks.dueThrow("5: setCost(1, " + cost + ")", ARGUMENT, () -> x.setCost(1, cost));
            checks.dueThrow("5: setCost(2, " + cost + ")", INDEX, () -> x.setCost(2, cost));
        }
        for (int statement : BEYOND) {
            checks.dueThrow("5: setCost(" + statement + ", 1)", INDEX, () -> x.setCost(statement, 1));
        }
        checks.due("5: the wrong ones left it", x.statement(1, 0), 3);
    }

    private static void promise6Set() {
        DoacrossScheduler x = new DoacrossScheduler();
        int[] least = {1, 0, 1, 0};
        int[] greatest = {40, 5, 6, 2};
        int[] first = {10, 1, 2, 0};
        for (int what = 0; what < 4; what++) {
            int parameter = what;
            int below = least[what] - 1;
            int above = greatest[what] + 1;
            checks.due("6: the least of " + what, x.set(what, least[what]), first[what]);
            checks.due("6: the greatest of " + what, x.set(what, greatest[what]), least[what]);
            checks.dueThrow("6: below " + what, ARGUMENT, () -> x.set(parameter, below));
            checks.dueThrow("6: above " + what, ARGUMENT, () -> x.set(parameter, above));
            checks.dueThrow("6: far below " + what, ARGUMENT, () -> x.set(parameter, MIN));
            checks.dueThrow("6: far above " + what, ARGUMENT, () -> x.set(parameter, MAX));
            checks.due("6: it stays " + what, x.count(10 + what), greatest[what]);
        }
        for (int what : new int[] {4, -1, 10, MIN, MAX}) {
            checks.dueThrow("6: set(" + what + ", 1)", ARGUMENT, () -> x.set(what, 1));
        }
    }

    private static void promise7Exchange() {
        DoacrossScheduler x = Checks.made("s1;s2;s3;f0>2:0;f1>2:1;");
        checks.due("7: exchange(0)", x.exchange(0), 1);
        checks.due("7: the position of 0", x.statement(0, 1), 1);
        checks.due("7: the position of 1", x.statement(1, 1), 0);
        checks.dueThrow("7: a dependence with the distance 0", STATE, () -> x.exchange(1));
        checks.due("7: the way back", x.exchange(0), 0);
        checks.due("7: a dependence with the distance 1 is no hindrance", x.exchange(1), 2);
        checks.dueThrow("7: next to each other now", STATE, () -> x.exchange(0));
        checks.due("7: a dependence that leads back is none either", x.exchange(1), 1);
        for (int position : new int[] {2, 3, -1, MIN, MAX, MAX - 1}) {
            checks.dueThrow("7: exchange(" + position + ")", INDEX, () -> x.exchange(position));
        }
        checks.due("7: the offset of 2", x.statement(2, 2), 3);
        DoacrossScheduler y = new DoacrossScheduler();
        checks.dueThrow("7: no statements", INDEX, () -> y.exchange(0));
        DoacrossScheduler z = Checks.made("s1;");
        checks.dueThrow("7: one statement", INDEX, () -> z.exchange(0));
    }

    private static void promise8Remove() {
        DoacrossScheduler x = Checks.made("s1;s2;f0>1:0;a0>1:1;o1>1:2;f1>0:3;");
        checks.due("8: remove(1)", x.remove(1), 3);
        int[][] want = {{0, 0, 1, 0}, {2, 1, 1, 2}, {0, 1, 0, 3}};
        for (int d = 0; d < 3; d++) {
            for (int what = 0; what < 4; what++) {
                checks.due("8: dependence(" + d + ", " + what + ")", x.dependence(d, what), want[d][what]);
            }
        }
        checks.dueThrow("8: remove(3)", INDEX, () -> x.remove(3));
        for (int dependence : BEYOND) {
            checks.dueThrow("8: remove(" + dependence + ")", INDEX, () -> x.remove(dependence));
        }
        checks.due("8: the last", x.remove(2), 2);
        checks.due("8: the first", x.remove(0), 1);
        checks.due("8: the rest", x.dependence(0, 0), 2);
        checks.due("8: the one with the distance 0 is gone", x.exchange(0), 1);
        checks.due("8: none left", x.remove(0), 0);
        checks.dueThrow("8: remove(0)", INDEX, () -> x.remove(0));
        DoacrossScheduler y = Checks.made("s1;f0>0:2;f0>0:1;f0>0:3;");
        y.eliminate(0);
        checks.due("8: before, only 1 is kept", y.dependence(0, 5) + y.dependence(1, 5) * 2 + y.dependence(2, 5) * 4, 2);
        y.remove(0);
        checks.due("8: what is kept moves along", y.dependence(0, 5) + y.dependence(1, 5) * 2, 1);
        Checks.write(y, "a0>0:5;");
        y.execute();
        checks.due("8: a new one is kept", y.dependence(2, 5), 1);
    }

    private static void promise9Statement() {
        DoacrossScheduler x = Checks.made("s2;s3;s4;");
        x.exchange(0);
        x.exchange(1);
        int[][] want = {{2, 2, 7}, {3, 0, 0}, {4, 1, 3}};
        for (int s = 0; s < 3; s++) {
            for (int what = 0; what < 3; what++) {
                checks.due("9: statement(" + s + ", " + what + ")", x.statement(s, what), want[s][what]);
            }
        }
        for (int what : new int[] {3, -1, MIN, MAX}) {
            checks.dueThrow("9: statement(0, " + what + ")", ARGUMENT, () -> x.statement(0, what));
            checks.dueThrow("9: statement(3, " + what + ")", INDEX, () -> x.statement(3, what));
        }
        for (int statement : BEYOND) {
            checks.dueThrow("9: statement(" + statement + ", 0)", INDEX, () -> x.statement(statement, 0));
        }
    }

    private static void promise10Dependence() {
        DoacrossScheduler x = Checks.made("s5;s2;f0>1:1;a0>1:0;o0>1:2;o1>0:3;o0>0:4;");
        int[][] want = {{0, 0, 1, 1, 6, 1}, {1, 0, 1, 0, 2, 1}, {2, 0, 1, 2, 5, 1}, {2, 1, 0, 3, 2, 1}, {2, 0, 0, 4, 2, 1}};
        for (int d = 0; d < want.length; d++) {
            for (int what = 0; what < 6; what++) {
                checks.due("10: dependence(" + d + ", " + what + ")", x.dependence(d, what), want[d][what]);
            }
        }
        x.set(1, 0);
        int[] lags = {5, 1, 4, 1, 1};
        for (int d = 0; d < lags.length; d++) {
            checks.due("10: without latency, dependence(" + d + ", 4)", x.dependence(d, 4), lags[d]);
        }
        x.eliminate(1);
        checks.due("10: implied by the processor", x.dependence(4, 5), 0);
        checks.due("10: the distance 0 is always kept", x.dependence(1, 5), 1);
        for (int what : new int[] {6, -1, MIN, MAX}) {
            checks.dueThrow("10: dependence(0, " + what + ")", ARGUMENT, () -> x.dependence(0, what));
            checks.dueThrow("10: dependence(5, " + what + ")", INDEX, () -> x.dependence(5, what));
        }
        for (int dependence : BEYOND) {
            checks.dueThrow("10: dependence(" + dependence + ", 0)", INDEX, () -> x.dependence(dependence, 0));
        }
    }

    private static void promise11Lead() {
        // The body alone never leads to a later iteration; signals do, and the costs before and behind them count.
        DoacrossScheduler x = Checks.made("s2;s3;s4;f2>0:1;f0>2:2;a1>1:1;");
        checks.due("11: no path", x.lead(0, 0), 1 + 4 - 6);
        // from 0 in 0: body to 1 (2), by a1>1 to 1 in 1 (+2) and in 2 (+2), body to 2 (+3): 9;
        // or body to 2 (5), f2>0 (+5), body (+5), f2>0 (+5), body (+5): 25.
        checks.due("11: the greatest sum", x.lead(1, 0), 25);
        // from 1 in 0: body to 2 (3), f2>0 (+5), body to 1 (+2): 10.
        checks.due("11: a dependence does not imply itself", x.lead(2, 0), 10);
        checks.dueThrow("11: lead(3, 0)", INDEX, () -> x.lead(3, 0));
        checks.dueThrow("11: lead(3, 2)", INDEX, () -> x.lead(3, 2));
        for (int dependence : BEYOND) {
            checks.dueThrow("11: lead(" + dependence + ", 0)", INDEX, () -> x.lead(dependence, 0));
        }
        for (int mode : new int[] {2, -1, MIN, MAX}) {
            checks.dueThrow("11: lead(0, " + mode + ")", ARGUMENT, () -> x.lead(0, mode));
        }
        Checks.write(x, "f0>1:0;");
        x.execute();
        checks.dueThrow("11: the distance 0", STATE, () -> x.lead(3, 0));
        checks.dueThrow("11: the distance 0 and no mode", ARGUMENT, () -> x.lead(3, 2));
        checks.due("11: the distance 0 adds no edge", x.lead(2, 0), 10);
        x.eliminate(0);
        checks.due("11: 1 is implied", x.dependence(1, 5), 0);
        checks.due("11: also if it is not kept", x.lead(1, 0), 25);
        // 2 is implied as well, and 0 is the only one left.
        checks.due("11: others that are not kept add no edge", x.lead(0, 0), -1);
    }

    private static void promise11LeadModes() {
        DoacrossScheduler x = Checks.made("s2;s3;f0>1:4;a1>0:1;");
        x.set(2, 2);
        x.set(1, 5);
        x.remove(1);
        checks.due("11: mode 0", x.lead(0, 0), -1);
        // two edges from the end of the body to its beginning two iterations later, 5 cycles each, and 0 before 1.
        checks.due("11: mode 1, 2 processors", x.lead(0, 1), 12);
        x.set(2, 1);
        checks.due("11: mode 1, 1 processor", x.lead(0, 1), 22);
        x.set(2, 3);
        checks.due("11: mode 1, 3 processors do not meet the distance 4", x.lead(0, 1), -1);
        x.set(2, 4);
        x.set(3, 1);
        checks.due("11: mode 1, 4 processors, whatever the assignment", x.lead(0, 1), 7);
        x.set(2, 5);
        checks.due("11: mode 1, 5 processors", x.lead(0, 1), -1);
        DoacrossScheduler y = Checks.made("s1;f0>0:2;f0>0:1;");
        checks.due("11: a sum of lags", y.lead(0, 0), 4);
        checks.due("11: an edge that leads beyond the distance", y.lead(1, 0), -1);
    }

    private static void promise12Eliminate() {
        DoacrossScheduler x = Checks.made("s1;s1;f0>0:2;f0>0:1;f0>1:0;");
        checks.due("12: eliminate(0)", x.eliminate(0), 1);
        checks.due("12: the longer one", x.dependence(0, 5), 0);
        checks.due("12: the shorter one", x.dependence(1, 5), 1);
        checks.due("12: again", x.eliminate(0), 0);
        for (int mode : new int[] {2, -1, MIN, MAX}) {
            checks.dueThrow("12: eliminate(" + mode + ")", ARGUMENT, () -> x.eliminate(mode));
        }
        x.set(1, 0);
        x.set(2, 1);
        checks.due("12: eliminate(1), the processor implies the other", x.eliminate(1), 1);
        checks.due("12: the distance 0 stays", x.dependence(2, 5), 1);
        checks.due("12: none is left", x.count(2), 0);
        // Lead equal to the lag is enough, one less is not.
        DoacrossScheduler y = Checks.made("s4;s9;f0>0:2;a0>0:1;");
        y.set(1, 2);
        checks.due("12: the lead", y.lead(0, 0), 6);
        checks.due("12: the lag", y.dependence(0, 4), 6);
        y.setCost(0, 5);
        checks.due("12: one less", y.eliminate(0), 0);
        y.setCost(0, 4);
        checks.due("12: as much", y.eliminate(0), 1);
    }

    private static void promise12Order() {
        // Two equal ones imply each other: the higher number goes.
        DoacrossScheduler x = Checks.made("s2;s2;f0>1:1;f0>1:1;f0>1:1;");
        checks.due("12: equal ones", x.eliminate(0), 2);
        checks.due("12: the lowest number stays", x.dependence(0, 5), 1);
        checks.due("12: the next does not", x.dependence(1, 5) + x.dependence(2, 5), 0);
        DoacrossScheduler y = Checks.made("s1;s1;f1>1:1;f0>0:2;f0>1:1;f1>0:1;");
        // 1 goes by f1>0:1 twice. Then, of those with the distance 1: 3 has no path and stays; 2 goes by the body,
        // f1>0:1 and the body; 0 goes by f1>0:1 and the body.
        checks.due("12: lead(1, 0)", y.lead(1, 0), 6);
        checks.due("12: lead(2, 0)", y.lead(2, 0), 4);
        checks.due("12: lead(0, 0)", y.lead(0, 0), 3);
        checks.due("12: descending distances, then descending numbers", y.eliminate(0), 3);
        checks.due("12: what is kept", y.dependence(3, 5) * 8 + y.dependence(2, 5) * 4 + y.dependence(1, 5) * 2
            + y.dependence(0, 5), 8);
        DoacrossScheduler z = Checks.made("s1;a0>0:1;f0>0:5;f0>0:3;");
        z.set(1, 0);
        checks.due("12: the distance 5 is considered too", z.eliminate(0), 2);
    }

    private static void promise13KeepAll() {
        DoacrossScheduler x = Checks.made("s1;s1;f0>0:2;f0>0:1;f0>1:0;f0>0:4;");
        checks.due("13: all are kept", x.keepAll(), 0);
        checks.due("13: eliminate(0)", x.eliminate(0), 2);
        checks.due("13: keepAll()", x.keepAll(), 2);
        checks.due("13: they are kept again", x.count(2), 3);
        checks.due("13: one by one", x.dependence(0, 5) + x.dependence(3, 5), 2);
        checks.due("13: again", x.keepAll(), 0);
        checks.due("13: none at all", new DoacrossScheduler().keepAll(), 0);
    }

    private static void promise14Precedes() {
        DoacrossScheduler x = Checks.made("s1;s1;s1;s1;s1;f0>2:0;a2>3:0;f3>4:1;f1>3:0;");
        boolean[][] want = new boolean[5][5];
        want[0][2] = true;
        want[0][3] = true;
        want[2][3] = true;
        want[1][3] = true;
        for (int first = 0; first < 5; first++) {
            for (int second = 0; second < 5; second++) {
                checks.due("14: precedes(" + first + ", " + second + ")", x.precedes(first, second), want[first][second]);
            }
        }
        for (int statement : new int[] {5, -1, MIN, MAX, 32}) {
            checks.dueThrow("14: precedes(0, " + statement + ")", INDEX, () -> x.precedes(0, statement) ? 1 : 0);
            checks.dueThrow("14: precedes(" + statement + ", 0)", INDEX, () -> x.precedes(statement, 0) ? 1 : 0);
        }
        x.remove(1);
        checks.due("14: the sequence is broken", x.precedes(0, 3), false);
        // The sequence runs against the numbers where the positions do.
        DoacrossScheduler y = Checks.made("s1;s1;s1;");
        y.exchange(0);
        y.exchange(1);
        y.exchange(0);
        Checks.write(y, "o1>0:0;o2>1:0;");
        y.execute();
        checks.due("14: against the numbers", y.precedes(2, 0), true);
        checks.due("14: not the other way", y.precedes(0, 2), false);
    }

    private static void promise15Delay() {
        checks.due("15: nothing", new DoacrossScheduler().delay(), 0);
        DoacrossScheduler x = Checks.made("s3;s4;s2;f2>0:2;f0>2:1;f0>1:0;");
        // f2>0:2 wants 2 * D >= 7 + 3 - 0, f0>2:1 wants D >= 0 + 4 - 7.
        checks.due("15: delay()", x.delay(), 5);
        x.set(1, 0);
        checks.due("15: rounded up", x.delay(), 5);
        x.set(1, 2);
        checks.due("15: rounded up again", x.delay(), 6);
        x.remove(0);
        checks.due("15: never below 0", x.delay(), 0);
        x.remove(0);
        checks.due("15: the distance 0 does not count", x.delay(), 0);
        DoacrossScheduler y = Checks.made("s9;s9;f1>0:5;");
        checks.due("15: the distance 5", y.delay(), 4);
        y.exchange(0);
        checks.due("15: in the other order", y.delay(), 1);
        DoacrossScheduler z = Checks.made("s2;f0>0:1;a0>0:2;");
        z.set(1, 5);
        checks.due("15: both are kept", z.delay(), 7);
        z.eliminate(0);
        z.remove(0);
        checks.due("15: the other is not kept", z.delay(), 0);
        z.keepAll();
        checks.due("15: it is kept again", z.delay(), 3);
    }

    private static void promise16Critical() {
        checks.due("16: nothing", new DoacrossScheduler().critical(), -1);
        DoacrossScheduler x = Checks.made("s3;s2;f0>1:0;f0>1:1;f1>0:1;a0>0:1;");
        checks.due("16: delay()", x.delay(), 6);
        checks.due("16: critical()", x.critical(), 2);
        Checks.write(x, "f1>0:1;");
        x.execute();
        checks.due("16: two with the same delay, none alone", x.critical(), -1);
        checks.due("16: eliminate(0)", x.eliminate(0), 3);
        checks.due("16: those that are not kept stay so", x.critical(), 2);
        x.remove(2);
        checks.due("16: the delay 0 has none", x.delay(), 0);
        checks.due("16: no critical one", x.critical(), -1);
        DoacrossScheduler y = Checks.made("s1;f0>0:1;f0>0:2;");
        checks.due("16: the lowest number that counts", y.critical(), 0);
    }

    private static void promises17And18Orders() {
        DoacrossScheduler x = Checks.made("s2;s3;s1;s4;f3>0:1;f1>2:0;f2>1:1;");
        // D >= offset(3) + 5 - offset(0) and D >= offset(2) + 2 - offset(1), 1 before 2: the second wants 5 at least.
        checks.due("17: before", x.delay(), 11);
        checks.due("17: leastDelay()", x.leastDelay(), 5);
        checks.due("17: the order is the same", x.delay(), 11);
        for (int s = 0; s < 4; s++) {
            checks.due("17: position " + s, x.statement(s, 1), s);
        }
        // The orders in which 2 follows 1 at once or behind nothing, and 3 stands before 0; the first of them by
        // numbers begins with 1, 2, 3, 0.
        checks.due("18: reorder()", x.reorder(), 4);
        int[] want = {3, 0, 1, 2};
        for (int s = 0; s < 4; s++) {
            checks.due("18: position of " + s, x.statement(s, 1), want[s]);
        }
        checks.due("18: the delay is the least", x.delay(), 5);
        checks.due("18: again", x.reorder(), 0);
        DoacrossScheduler y = Checks.made("s1;s1;s1;");
        y.exchange(0);
        checks.due("18: of equal ones the first by numbers", y.reorder(), 2);
        checks.due("18: the position of 0", y.statement(0, 1), 0);
        // Signals that are not kept do not count.
        DoacrossScheduler z = Checks.made("s1;s5;f1>0:2;f1>0:1;");
        z.set(1, 5);
        checks.due("17: both signals", z.leastDelay(), 5);
        z.remove(1);
        checks.due("17: one signal", z.leastDelay(), 3);
        checks.due("18: one signal", z.reorder(), 2);
    }

    private static void promises17And18Limits() {
        DoacrossScheduler none = new DoacrossScheduler();
        checks.due("17: no statements", none.leastDelay(), 0);
        checks.due("18: no statements", none.reorder(), 0);
        DoacrossScheduler six = Checks.made("s1;s1;s1;s1;s1;s9;f5>0:1;");
        // 0 must stand 10 cycles behind 5: the first such order is 1, 2, 3, 5, 4, 0.
        checks.due("17: six statements", six.leastDelay(), 0);
        checks.due("18: six statements", six.reorder(), 5);
        checks.due("18: the position of 5", six.statement(5, 1), 3);
        Checks.write(six, "s1;");
        six.execute();
        checks.dueThrow("17: seven statements", UNSUPPORTED, six::leastDelay);
        checks.dueThrow("18: seven statements", UNSUPPORTED, six::reorder);
        checks.due("18: nothing changed", six.statement(5, 1), 3);
        Checks.write(six, "s1;");
        six.execute();
        checks.dueThrow("17: eight statements", UNSUPPORTED, six::leastDelay);
        checks.dueThrow("18: eight statements", UNSUPPORTED, six::reorder);
    }

    /** The only legal order is the last one of all 720. */
    private static void promises17And18LastOrder() {
        DoacrossScheduler x = Checks.made("s1;s2;s3;s4;s5;s6;f0>5:1;");
        for (int sorted = 5; sorted > 0; sorted--) {
            for (int p = 0; p < sorted; p++) {
                x.exchange(p);
            }
        }
        Checks.write(x, "f5>4:0;f4>3:0;f3>2:0;f2>1:0;f1>0:0;");
        x.execute();
        checks.due("17: the last order", x.leastDelay(), 22);
        checks.due("18: the last order stays", x.reorder(), 0);
        checks.due("18: the position of 0", x.statement(0, 1), 5);
        x.remove(1);
        // 5 is free to stand last: 0 at 14, 5 at 15.
        checks.due("17: 5 need not come first", x.leastDelay(), 1);
        checks.due("18: 4, 3, 2, 1, 0, 5", x.reorder(), 6);
        checks.due("18: the position of 5", x.statement(5, 1), 5);
        checks.due("18: the delay is the least one", x.delay(), 1);
    }

    private static void promise19Length() {
        checks.due("19: no statements", new DoacrossScheduler().length(), 0);
        DoacrossScheduler x = Checks.made("s3;s2;");
        checks.due("19: two processors", x.length(), 25);
        x.set(2, 3);
        checks.due("19: three processors", x.length(), 20);
        x.set(0, 1);
        checks.due("19: one iteration", x.length(), 5);
        x.set(0, 10);
        Checks.write(x, "f1>0:1;");
        x.execute();
        checks.due("19: no overlap, and the latency", x.length(), 59);
        x.set(2, 1);
        checks.due("19: signals within one processor have latency too", x.length(), 59);
        x.set(1, 0);
        checks.due("19: without latency", x.length(), 50);
        DoacrossScheduler y = Checks.made("s1;f0>0:2;f0>0:1;");
        y.set(2, 4);
        checks.due("19: the sooner of two signals", y.length(), 19);
        y.eliminate(0);
        y.remove(1);
        checks.due("19: what is not kept does not hold back", y.length(), 3);
        checks.due("19: the state is the same", y.count(12), 4);
    }

    private static void promise20Start() {
        DoacrossScheduler x = Checks.made("s3;s2;f0>1:1;a1>0:2;");
        x.set(2, 2);
        x.set(0, 4);
        // 0: 0, 3. 1: 0, then 1 not before 0 + 4. 2: 0 after 5 on its processor, and not before 3 + 2; 1 not before
        // 0 + 4. 3: free at 6, 0 not before 4 + 2; 1 not before 5 + 4.
        int[][] want = {{0, 3}, {0, 4}, {5, 8}, {6, 9}};
        for (int i = 0; i < 4; i++) {
            for (int s = 0; s < 2; s++) {
                checks.due("20: start(" + s + ", " + i + ")", x.start(s, i), want[i][s]);
            }
        }
        x.exchange(0);
        checks.due("20: the order of the body counts", x.start(0, 0), 2);
        for (int wrong : new int[] {4, 40, -1, MIN, MAX}) {
            checks.dueThrow("20: start(0, " + wrong + ")", INDEX, () -> x.start(0, wrong));
            checks.dueThrow("20: start(" + wrong + ", 0)", INDEX, () -> x.start(wrong, 0));
        }
        checks.dueThrow("20: start(2, 0)", INDEX, () -> x.start(2, 0));
        checks.dueThrow("20: no statements", INDEX, () -> new DoacrossScheduler().start(0, 0));
    }

    private static void promise21Processor() {
        DoacrossScheduler x = Checks.made("s3;");
        x.set(2, 3);
        int[][] want = {{0, 1, 2, 0, 1, 2, 0, 1, 2, 0}, {0, 0, 0, 0, 1, 1, 1, 2, 2, 2}, {0, 1, 2, 0, 1, 2, 0, 1, 2, 0}};
        for (int assignment = 0; assignment < 3; assignment++) {
            x.set(3, assignment);
            for (int i = 0; i < 10; i++) {
                checks.due("21: processor(" + i + ") of " + assignment, x.processor(i), want[assignment][i]);
            }
        }
        for (int iteration : new int[] {10, 40, -1, MIN, MAX}) {
            checks.dueThrow("21: processor(" + iteration + ")", INDEX, () -> x.processor(iteration));
        }
        x.set(0, 1);
        x.set(3, 1);
        checks.due("21: one iteration", x.processor(0), 0);
        checks.dueThrow("21: processor(1)", INDEX, () -> x.processor(1));
        x.set(0, 40);
        x.set(2, 6);
        checks.due("21: the last of 40 in blocks", x.processor(39), 5);
        checks.due("21: 6 of 40 in blocks", x.processor(6), 0);
        checks.due("21: 7 of 40 in blocks", x.processor(7), 1);
    }

    private static void promise21Greedy() {
        DoacrossScheduler x = new DoacrossScheduler();
        x.set(3, 2);
        checks.due("21: greedy without statements", x.processor(9), 0);
        x.set(3, 0);
        checks.due("21: cyclic without statements", x.processor(9), 1);
        // With an output dependence the second iteration waits long, so the first processor is free again sooner.
        DoacrossScheduler y = Checks.made("s1;s2;f1>1:1;");
        y.set(1, 5);
        y.set(3, 2);
        y.set(2, 3);
        y.set(0, 6);
        // 0: 0 and 1, ends 3. 1: 0 and 8, ends 10. 2: 0 and 15, ends 17. 3 goes to processor 0: 3 and 22, ends 24.
        // 4 goes to processor 1, free at 10: ends 31. 5 goes to processor 2, free at 17.
        int[] want = {0, 1, 2, 0, 1, 2};
        for (int i = 0; i < 6; i++) {
            checks.due("21: greedy, processor(" + i + ")", y.processor(i), want[i]);
        }
        // 1 waits for 0, 2 does not wait for 1: the odd ones are short of work to do.
        DoacrossScheduler z = Checks.made("s1;a0>0:3;");
        z.set(1, 5);
        z.set(3, 2);
        z.set(2, 2);
        z.set(0, 7);
        // Starts: 0 on 0 at 0, 1 on 1 at 0, 2 on 0 at 1, 3 on 1 at 6 (free 7), 4 on 0 (free 2) at 6 (free 7),
        // 5 on 0 (tie) at 7 (free 8), 6 on 1 at 12.
        int[] due = {0, 1, 0, 1, 0, 0, 1};
        for (int i = 0; i < 7; i++) {
            checks.due("21: greedy and ties, processor(" + i + ")", z.processor(i), due[i]);
        }
        checks.due("21: greedy, the last start", z.start(0, 6), 12);
    }

    private static void promise22Total() {
        DoacrossScheduler x = Checks.made("s3;s2;f0>1:1;a1>0:2;");
        x.set(0, 5);
        // As in promise20Start; 4 on processor 0, free at 10: 0 at 10, 1 at 13.
        int[][] want = {{3, 15, 0, 15}, {2, 10, 1, 11}};
        for (int p = 0; p < 2; p++) {
            for (int what = 0; what < 4; what++) {
                checks.due("22: total(" + p + ", " + what + ")", x.total(p, what), want[p][what]);
            }
        }
        for (int what : new int[] {4, -1, MIN, MAX}) {
            checks.dueThrow("22: total(0, " + what + ")", ARGUMENT, () -> x.total(0, what));
            checks.dueThrow("22: total(2, " + what + ")", INDEX, () -> x.total(2, what));
        }
        for (int processor : BEYOND) {
            checks.dueThrow("22: total(" + processor + ", 0)", INDEX, () -> x.total(processor, 0));
        }
        x.set(2, 6);
        for (int what = 0; what < 4; what++) {
            checks.due("22: a processor without iterations, " + what, x.total(5, what), 0);
        }
        checks.dueThrow("22: total(6, 0)", INDEX, () -> x.total(6, 0));
        DoacrossScheduler y = new DoacrossScheduler();
        checks.due("22: iterations without statements", y.total(1, 0), 5);
        checks.due("22: no time without statements", y.total(1, 1) + y.total(1, 2) + y.total(1, 3), 0);
        DoacrossScheduler z = Checks.made("s1;s1;f1>0:1;");
        z.set(1, 3);
        z.set(0, 3);
        // 0: 0, 1. 1: 5, 6. 2: 10, 11: processor 0 stalls from 2 to 10, processor 1 from 0 to 5.
        checks.due("22: the stalls of 0", z.total(0, 2), 8);
        checks.due("22: the stalls of 1, from time 0 on", z.total(1, 2), 5);
    }

    private static void promises23And24FillAndDrain() {
        DoacrossScheduler x = new DoacrossScheduler();
        checks.due("23: no statements", x.fill(), 0);
        checks.due("24: no statements", x.drain(), 0);
        DoacrossScheduler y = Checks.made("s2;s3;f0>0:1;");
        y.set(2, 3);
        y.set(0, 7);
        // Starts of 0: 0, 3, 6, 9, 12, 15, 18; ends: 5, 8, 11, 14, 17, 20, 23.
        checks.due("23: fill()", y.fill(), 6);
        checks.due("24: drain()", y.drain(), 6);
        y.set(0, 2);
        checks.due("23: the third has no iterations", y.fill(), 3);
        checks.due("24: the third has no iterations", y.drain(), 3);
        y.set(0, 1);
        checks.due("23: one iteration", y.fill(), 0);
        checks.due("24: one iteration", y.drain(), 0);
        DoacrossScheduler z = Checks.made("s2;s3;f1>1:1;");
        z.set(2, 2);
        z.set(0, 2);
        checks.due("23: the first statement counts", z.fill(), 0);
        checks.due("24: 1 ends at 2 + 4 + 3", z.drain(), 4);
        DoacrossScheduler blocks = Checks.made("s4;");
        blocks.set(3, 1);
        blocks.set(2, 4);
        checks.due("23: blocks", blocks.fill(), 0);
        checks.due("24: blocks of 3, 2, 3, 2", blocks.drain(), 4);
    }

    private static void promise25SpeedUp() {
        DoacrossScheduler x = Checks.made("s2;s4;");
        x.set(2, 4);
        // 60 cycles in 18.
        checks.due("25: numerator", x.speedUp(0), 10);
        checks.due("25: denominator", x.speedUp(1), 3);
        x.set(2, 5);
        checks.due("25: a whole number", x.speedUp(0), 5);
        checks.due("25: over 1", x.speedUp(1), 1);
        Checks.write(x, "f1>0:1;");
        x.execute();
        // 60 cycles in 69: slower than one processor.
        checks.due("25: below 1, numerator", x.speedUp(0), 20);
        checks.due("25: below 1, denominator", x.speedUp(1), 23);
        DoacrossScheduler none = new DoacrossScheduler();
        checks.dueThrow("25: no statements", STATE, () -> none.speedUp(0));
        checks.dueThrow("25: no statements, part 1", STATE, () -> none.speedUp(1));
        for (int part : new int[] {2, -1, MIN, MAX}) {
            checks.dueThrow("25: speedUp(" + part + ")", ARGUMENT, () -> x.speedUp(part));
            checks.dueThrow("25: no statements, speedUp(" + part + ")", ARGUMENT, () -> none.speedUp(part));
        }
    }

    private static void promise26BestProcessors() {
        DoacrossScheduler x = new DoacrossScheduler();
        x.set(2, 6);
        checks.due("26: no statements", x.bestProcessors(), 1);
        Checks.write(x, "s4;");
        x.execute();
        checks.due("26: ten iterations: 5 do as well as 6", x.bestProcessors(), 5);
        checks.due("26: the number does not change", x.count(12), 6);
        checks.due("26: the run is the present one", x.processor(5), 5);
        x.set(0, 6);
        checks.due("26: six iterations", x.bestProcessors(), 6);
        x.set(0, 1);
        checks.due("26: one iteration", x.bestProcessors(), 1);
        x.set(0, 5);
        x.set(3, 1);
        checks.due("26: five iterations in blocks", x.bestProcessors(), 5);
        x.set(0, 4);
        checks.due("26: four iterations in blocks", x.bestProcessors(), 4);
        Checks.write(x, "f0>0:1;");
        x.execute();
        x.set(1, 0);
        checks.due("26: nothing in parallel", x.bestProcessors(), 1);
    }

    private static void promise27Signals() {
        DoacrossScheduler x = Checks.made("s1;s1;f0>1:0;f0>1:1;a1>0:3;o0>0:5;");
        checks.due("27: signals()", x.signals(), 9 + 7 + 5);
        x.set(0, 4);
        checks.due("27: fewer iterations", x.signals(), 3 + 1);
        x.set(0, 1);
        checks.due("27: one iteration", x.signals(), 0);
        x.set(0, 40);
        checks.due("27: on one processor as on two", x.signals(), 39 + 37 + 35);
        x.set(2, 1);
        x.set(1, 0);
        checks.due("27: eliminate(1)", x.eliminate(1), 3);
        checks.due("27: none kept", x.signals(), 0);
        checks.due("27: nothing", new DoacrossScheduler().signals(), 0);
    }

    private static void promise28Violated() {
        checks.due("28: nothing", new DoacrossScheduler().violated(), -1);
        DoacrossScheduler x = Checks.made("s3;s2;f0>1:0;a0>1:0;o0>1:0;f1>0:4;f1>0:2;");
        x.set(1, 5);
        checks.due("28: eliminated for two processors", eliminatedFor(x, 2), -1);
        // Without latency and with the distance 2, two processors do the work of the signals.
        x.set(1, 0);
        checks.due("28: by two processors", eliminatedFor(x, 2), -1);
        checks.due("28: all signals are gone", x.count(2), 0);
        x.set(2, 4);
        checks.due("28: four processors keep the distance 4, not the distance 2", x.violated(), 4);
        x.set(2, 3);
        checks.due("28: three processors violate the distance 2 only", x.violated(), 4);
        x.set(2, 6);
        checks.due("28: six violate both, the first is told", x.violated(), 3);
        x.set(0, 4);
        checks.due("28: no iteration has one that is 4 higher", x.violated(), 4);
        x.set(0, 2);
        checks.due("28: none has one that is 2 higher", x.violated(), -1);
        x.set(0, 10);
        x.keepAll();
        checks.due("28: signals enforce all", x.violated(), -1);
        x.set(1, 5);
        checks.due("28: the latency is left out for the distance 0", x.violated(), -1);
    }

    private static int eliminatedFor(DoacrossScheduler x, int processors) {
        x.set(2, processors);
        x.eliminate(1);
        return x.violated();
    }

    private static void promises29And30SaveAndRestore() {
        DoacrossScheduler x = Checks.made("s1;s2;s3;f0>1:0;f0>0:2;f0>0:1;");
        x.set(0, 20);
        x.set(1, 3);
        x.set(2, 4);
        x.set(3, 2);
        x.exchange(1);
        x.eliminate(0);
        checks.due("29: save()", x.save(), 3);
        checks.due("30: restore() at once", x.restore(), 3);
        x.set(0, 1);
        x.set(1, 0);
        x.set(2, 1);
        x.set(3, 1);
        x.setCost(0, 9);
        x.exchange(1);
        x.keepAll();
        x.remove(0);
        x.remove(0);
        Checks.write(x, "s4;a3>3:5;");
        x.execute();
        Checks.write(x, "s0;");
        checks.dueThrow("30: a text with an error", ARGUMENT, x::execute);
        Checks.write(x, "s7");
        for (int round = 0; round < 2; round++) {
            checks.due("30: restore()", x.restore(), 3);
            int[] what = {0, 1, 2, 3, 4, 10, 11, 12, 13};
            int[] want = {3, 3, 1, 2, 6, 20, 3, 4, 2};
            for (int i = 0; i < what.length; i++) {
                checks.due("30: count(" + what[i] + ")", x.count(what[i]), want[i]);
            }
            checks.due("30: the position of 1", x.statement(1, 1), 2);
            checks.due("30: the cost of 0", x.statement(0, 0), 1);
            checks.due("30: what is kept", x.dependence(1, 5) * 2 + x.dependence(2, 5), 1);
            checks.due("30: the first dependence", x.dependence(0, 3), 0);
            checks.due("30: the error position stays", x.errorPosition(), 1);
            x.setCost(0, 8);
            x.set(1, 5);
            x.exchange(1);
            x.keepAll();
        }
        checks.due("29: in place of the earlier one", x.save(), 3);
        x.setCost(0, 1);
        x.restore();
        checks.due("30: the later one", x.statement(0, 0), 8);
        DoacrossScheduler y = new DoacrossScheduler();
        checks.dueThrow("30: no snapshot", STATE, y::restore);
        checks.due("29: nothing", y.save(), 0);
        Checks.write(y, "s1;f0>0:1;");
        y.execute();
        checks.due("30: back to nothing", y.restore(), 0);
        checks.due("30: no statements", y.count(0), 0);
    }

    private static void promise31Count() {
        DoacrossScheduler x = Checks.made("s2;s7;f0>1:0;f0>0:2;f0>0:1;");
        Checks.write(x, "xyz");
        x.eliminate(0);
        int[] what = {0, 1, 2, 3, 4, 10, 11, 12, 13};
        int[] want = {2, 3, 1, 3, 9, 10, 1, 2, 0};
        for (int i = 0; i < what.length; i++) {
            checks.due("31: count(" + what[i] + ")", x.count(what[i]), want[i]);
        }
        for (int wrong : new int[] {-1, 5, 9, 14, MIN, MIN + 5, MAX}) {
            checks.dueThrow("31: count(" + wrong + ")", ARGUMENT, () -> x.count(wrong));
        }
    }
}
