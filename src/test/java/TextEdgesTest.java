/**
 * Promises 2 to 4 and the document's 'Text': each sentence that names a boundary case has a test of its own.
 */
public final class TextEdgesTest {
    private static final Class<IllegalArgumentException> ARGUMENT = IllegalArgumentException.class;
    private static final Class<IllegalStateException> STATE = IllegalStateException.class;

    private static final String FOUR = "s1;s1;s1;s1;";
    private static final String EIGHT = FOUR + FOUR;
    private static final String SEVEN_DEPENDENCES = "f0>0:1;a0>0:1;o0>0:1;f0>0:2;a0>0:2;o0>0:2;f0>0:3;";
    private static final String SIXTY = "s1;s2;s3;s4;s5;s6;f0>0:1;a0>1:0;o5>5:5;f1>5:0;f5>0:1;a2>3:4;";

    private static final Checks checks = new Checks();

    public static void main(String[] args) {
        fourCharactersAtMost();
        mostSignificantFirst();
        zerosAreSkipped();
        numberInBuffer();
        wrongBytes();
        sixtyFit();
        oneMoreThanSixty();
        firstListedOfAppend();

        commandsInOrder();
        emptyAfterwards();
        emptyAfterAnError();
        noCommandExecuted();
        numberOfCommands();
        errorThrows();

        noErrorYet();
        noErrorAnyMore();
        mostRecentText();
        emptyText();
        oneOrMoreCommands();
        leftmostError();
        notAllowed();
        leftOut();
        endsTooEarly();
        endsTooEarlyWhenFull();
        missingStatement();
        addedBefore();
        distanceZero();
        positionsAtThatTime();
        nineStatements();
        seventeenDependences();
        oneTooMany();
        kinds();
        costDigits();
        distanceDigits();
        statementDigits();
        checks.each(2, 4);
        checks.end();
    }

    private static int bytes(int first, int second, int third, int fourth) {
        return first << 24 | second << 16 | third << 8 | fourth;
    }

    private static DoacrossScheduler filled(int characters) {
        DoacrossScheduler x = new DoacrossScheduler();
        for (int i = 0; i < characters; i++) {
            x.append('!');
        }
        return x;
    }

    /** The text is refused at the place, and leaves the loop as it was; texts before it are executed first. */
    private static void wrongAt(int place, String text, String... before) {
        DoacrossScheduler x = Checks.made(before);
        int had = x.count(0) * 100 + x.count(1);
        Checks.write(x, text);
        checks.dueThrow("execute() of " + text, ARGUMENT, x::execute);
        checks.due("errorPosition() of " + text, x.errorPosition(), place);
        checks.due("the loop after " + text, x.count(0) * 100 + x.count(1), had);
    }

    private static void right(int commands, String text, String... before) {
        DoacrossScheduler x = Checks.made(before);
        Checks.write(x, text);
        checks.due("execute() of " + text, Checks.outcome(x::execute), Integer.toString(commands));
        checks.due("errorPosition() of " + text, x.errorPosition(), -1);
    }

    private static void fourCharactersAtMost() {
        checks.sentence(2, "Appends up to four characters to the buffer");
        DoacrossScheduler x = new DoacrossScheduler();
        checks.due("no character", x.append(0), 0);
        checks.due("one", x.append(bytes(0, 0, 0, 's')), 1);
        checks.due("two", x.append(bytes(0, 0, '3', ';')), 3);
        checks.due("three", x.append(bytes(0, 's', '4', ';')), 6);
        checks.due("four", x.append(bytes('s', '5', ';', 's')), 10);
        checks.due("two more", x.append(bytes('6', ';', 0, 0)), 12);
        checks.due("the commands", x.execute(), 4);
        for (int s = 0; s < 4; s++) {
            checks.due("the cost of " + s, x.statement(s, 0), 3 + s);
        }
    }

    private static void mostSignificantFirst() {
        checks.sentence(2, "the bytes of an int from the most significant one to the least significant one");
        DoacrossScheduler x = new DoacrossScheduler();
        x.append(bytes('s', '7', ';', 's'));
        x.append(bytes('9', ';', 0, 0));
        checks.due("in this order", x.execute(), 2);
        checks.due("the first cost", x.statement(0, 0), 7);
        checks.due("the second cost", x.statement(1, 0), 9);
        x.append(bytes(';', '7', 's', 0));
        checks.dueThrow("not the other way round", ARGUMENT, x::execute);
        checks.due("it begins with ;", x.errorPosition(), 0);
    }

    private static void zerosAreSkipped() {
        checks.sentence(2, "where bytes that are 0 are skipped");
        int[] holes = {bytes(0, 's', '6', ';'), bytes('s', 0, '6', ';'), bytes('s', '6', 0, ';'), bytes('s', '6', ';', 0)};
        for (int packed : holes) {
            DoacrossScheduler x = new DoacrossScheduler();
            checks.due("append(" + packed + ")", x.append(packed), 3);
            checks.due("execute()", x.execute(), 1);
            checks.due("the cost", x.statement(0, 0), 6);
        }
        DoacrossScheduler y = new DoacrossScheduler();
        checks.due("only the first byte", y.append('s' << 24), 1);
        checks.due("only the second", y.append('2' << 16), 2);
        checks.due("none", y.append(0), 2);
        checks.due("only the third", y.append(';' << 8), 3);
        checks.due("execute()", y.execute(), 1);
    }

    private static void numberInBuffer() {
        checks.sentence(2, "Returns the number of characters in the buffer.");
        DoacrossScheduler x = new DoacrossScheduler();
        checks.due("an empty buffer", x.append(0), 0);
        checks.due("all, not only the new ones", x.append('s') + 10 * x.append(bytes(0, 0, '1', ';')), 31);
        x.execute();
        checks.due("an empty buffer again", x.append(0), 0);
        checks.due("from the beginning again", x.append('s'), 1);
    }

    private static void wrongBytes() {
        checks.sentence(2, "if a byte that is not 0 is not from 33 to 126");
        for (int shift = 0; shift < 32; shift += 8) {
            int others = 0x21212121 & ~(255 << shift);
            for (int wrong : new int[] {1, 2, 10, 31, 32, 127, 128, 129, 160, 254, 255}) {
                DoacrossScheduler x = new DoacrossScheduler();
                int alone = wrong << shift;
                checks.dueThrow("append(" + alone + ")", ARGUMENT, () -> x.append(alone));
                checks.dueThrow("append(" + (others | alone) + ")", ARGUMENT, () -> x.append(others | alone));
                checks.due("nothing was appended", x.count(3), 0);
            }
            for (int allowed : new int[] {33, 34, 125, 126}) {
                DoacrossScheduler x = new DoacrossScheduler();
                checks.due("the byte " + allowed, x.append(allowed << shift), 1);
                checks.due("four with the byte " + allowed, x.append(others | allowed << shift), 5);
            }
        }
        DoacrossScheduler x = new DoacrossScheduler();
        for (int packed : new int[] {-1, Integer.MIN_VALUE, Integer.MAX_VALUE}) {
            checks.dueThrow("append(" + packed + ")", ARGUMENT, () -> x.append(packed));
        }
    }

    private static void sixtyFit() {
        checks.sentence(2, "A buffer holds at most 60 characters.");
        for (int had = 56; had <= 60; had++) {
            DoacrossScheduler x = filled(had);
            int rest = Checks.packed("!!!!".substring(had - 56), 0);
            checks.due("up to 60 from " + had, x.append(rest), 60);
            checks.due("none beyond 60", x.append(0), 60);
            checks.dueThrow("the text is read", ARGUMENT, x::execute);
            checks.due("its error", x.errorPosition(), 0);
        }
        right(12, SIXTY);
    }

    private static void oneMoreThanSixty() {
        checks.sentence(2, "if there would be more than 60 characters");
        for (int had = 57; had <= 60; had++) {
            for (int more = 61 - had; more <= 4; more++) {
                DoacrossScheduler x = filled(had);
                int packed = Checks.packed("!!!!".substring(4 - more), 0);
                checks.dueThrow(more + " more than " + had, STATE, () -> x.append(packed));
                checks.due("still " + had, x.count(3), had);
            }
        }
        DoacrossScheduler x = new DoacrossScheduler();
        Checks.write(x, SIXTY.substring(0, 59));
        checks.dueThrow("two more than 59", STATE, () -> x.append(bytes(0, ';', 0, ';')));
        checks.due("one more than 59", x.append(bytes(0, ';', 0, 0)), 60);
        checks.due("no part of the refused ones is there", x.execute(), 12);
    }

    private static void firstListedOfAppend() {
        checks.sentence(2, "Throws `IllegalArgumentException` if a byte that is not 0 is not from 33 to 126");
        DoacrossScheduler x = filled(60);
        for (int packed : new int[] {' ', bytes('!', '!', '!', 127), bytes(127, '!', '!', '!'), -1}) {
            checks.dueThrow("listed before the full buffer, append(" + packed + ")", ARGUMENT, () -> x.append(packed));
        }
        checks.due("still 60", x.count(3), 60);
    }

    private static void commandsInOrder() {
        checks.sentence(3, "Reads the text in the buffer and executes its commands in their order.");
        DoacrossScheduler x = Checks.made("s2;f0>0:1;s9;a0>1:0;o1>0:5;");
        int[][] want = {{0, 0, 0, 1}, {1, 0, 1, 0}, {2, 1, 0, 5}};
        for (int d = 0; d < want.length; d++) {
            for (int what = 0; what < 4; what++) {
                checks.due("dependence(" + d + ", " + what + ")", x.dependence(d, what), want[d][what]);
            }
        }
        checks.due("the first statement", x.statement(0, 0), 2);
        checks.due("the second statement", x.statement(1, 0), 9);
    }

    private static void emptyAfterwards() {
        checks.sentence(3, "The buffer is empty afterwards");
        DoacrossScheduler x = Checks.made(SIXTY);
        checks.due("count(3)", x.count(3), 0);
        checks.dueThrow("the text is not read again", ARGUMENT, x::execute);
        checks.due("there is nothing", x.errorPosition(), 0);
        checks.due("nothing was done again", x.count(0) * 100 + x.count(1), 606);
        Checks.write(x, SIXTY.substring(0, 18));
        checks.dueThrow("a text of its own", ARGUMENT, x::execute);
        checks.due("the ninth statement", x.errorPosition(), 6);
    }

    private static void emptyAfterAnError() {
        checks.sentence(3, "also if an exception is thrown");
        for (String text : new String[] {"x", "s1;s0;", "s1;s", "s1;f1>0:1;"}) {
            DoacrossScheduler x = new DoacrossScheduler();
            Checks.write(x, text);
            checks.dueThrow("execute() of " + text, ARGUMENT, x::execute);
            checks.due("count(3) after " + text, x.count(3), 0);
            Checks.write(x, "s8;");
            checks.due("a new text after " + text, x.execute(), 1);
            checks.due("its cost", x.count(4), 8);
        }
    }

    private static void noCommandExecuted() {
        checks.sentence(3, "if there is an error in the text, no command is executed");
        for (String end : new String[] {"x", "s", "s0;", "f2>9:1;", "f1>0:0;", "f0>1:6;", "s1;;"}) {
            DoacrossScheduler x = Checks.made("s2;f0>0:3;");
            x.setCost(0, 4);
            Checks.write(x, "s5;f0>1:0;a1>1:1;s6;" + end);
            checks.dueThrow("an error at the end, " + end, ARGUMENT, x::execute);
            checks.due("the statements", x.count(0), 1);
            checks.due("the dependences", x.count(1), 1);
            checks.due("the costs", x.count(4), 4);
            checks.due("the distance", x.dependence(0, 3), 3);
            Checks.run(x, "s7;");
            checks.due("the next statement has the next number", x.statement(1, 0), 7);
        }
    }

    private static void numberOfCommands() {
        checks.sentence(3, "Returns the number of commands.");
        right(1, "s1;");
        right(1, "o0>0:1;", "s1;");
        right(2, "s1;o0>0:1;");
        right(8, EIGHT);
        right(12, SIXTY);
    }

    private static void errorThrows() {
        checks.sentence(3, "Throws `IllegalArgumentException` if there is an error in the text");
        for (String text : new String[] {"", "!", "s", "f", "f0", "s1;f0>0:0;", SIXTY.substring(0, 59)}) {
            DoacrossScheduler x = new DoacrossScheduler();
            Checks.write(x, text);
            checks.dueThrow("execute() of " + text, ARGUMENT, x::execute);
        }
        right(12, SIXTY);
    }

    private static void noErrorYet() {
        checks.sentence(4, "or execute was not called");
        DoacrossScheduler x = new DoacrossScheduler();
        checks.due("a new object", x.errorPosition(), -1);
        Checks.write(x, "xyz");
        checks.due("a wrong text that is not read yet", x.errorPosition(), -1);
    }

    private static void noErrorAnyMore() {
        checks.sentence(4, "or -1 if that text had no error");
        DoacrossScheduler x = Checks.made("s1;");
        checks.due("a text without error", x.errorPosition(), -1);
        Checks.write(x, "s1;x");
        checks.dueThrow("an error", ARGUMENT, x::execute);
        checks.due("its position", x.errorPosition(), 3);
        Checks.run(x, "s1;");
        checks.due("no error any more", x.errorPosition(), -1);
    }

    private static void mostRecentText() {
        checks.sentence(4, "Returns the position of the error in the text that execute read most recently.");
        DoacrossScheduler x = new DoacrossScheduler();
        String[] texts = {"s1;s1;x", "s", "f", "", "s1;f1"};
        int[] want = {6, 1, 1, 0, 4};
        for (int i = 0; i < texts.length; i++) {
            Checks.write(x, texts[i]);
            checks.due("before the text is read", x.errorPosition(), i == 0 ? -1 : want[i - 1]);
            checks.dueThrow("execute() of " + texts[i], ARGUMENT, x::execute);
            checks.due("errorPosition() of " + texts[i], x.errorPosition(), want[i]);
            checks.due("asked again", x.errorPosition(), want[i]);
        }
    }

    private static void emptyText() {
        checks.sentence(4, "an empty text is wrong at 0");
        wrongAt(0, "");
        wrongAt(0, "", EIGHT);
    }

    private static void oneOrMoreCommands() {
        checks.sentence(4, "text = command { command }");
        right(1, "s1;");
        right(2, "s1;s1;");
        wrongAt(3, "s1;;");
        wrongAt(3, "s1;1;");
    }

    private static void leftmostError() {
        checks.sentence(4, "The text is read from left to right, and the first error is reported at its position");
        wrongAt(1, "s0x");
        wrongAt(1, "f9>9:9x", "s1;");
        wrongAt(3, "f0>9:9x", "s1;");
        wrongAt(5, "f0>0:9x", "s1;");
        wrongAt(5, "f0>0:0x", "s1;");
        wrongAt(6, "f0>0:1x;f9", "s1;");
        wrongAt(1, "f9", "s1;");
        wrongAt(3, "f0>9", "s1;");
    }

    private static void notAllowed() {
        checks.sentence(4, "at a character that is not allowed");
        String[] good = {"s1;", "f0>0:1;"};
        for (String command : good) {
            for (int place = 0; place < command.length(); place++) {
                for (char wrong : new char[] {'!', '~', 'S', 'F', '/', '=', '?', 'r', 't', 'e', 'g'}) {
                    wrongAt(place, command.substring(0, place) + wrong + command.substring(place + 1), "s1;");
                    wrongAt(3 + place, "s2;" + command.substring(0, place) + wrong, "s1;");
                }
            }
        }
    }

    private static void leftOut() {
        checks.sentence(4, "kind statement \">\" statement \":\" distance \";\"");
        String command = "f0>1:1;";
        for (int place = 0; place < command.length(); place++) {
            wrongAt(place, command.substring(0, place) + command.substring(place + 1), "s1;s1;");
            wrongAt(place, command.substring(0, place) + command.substring(place + 1) + command, "s1;s1;");
        }
        right(1, command, "s1;s1;");
        wrongAt(0, "1;", "s1;s1;");
        wrongAt(1, "s;", "s1;s1;");
        wrongAt(2, "s1s1;", "s1;s1;");
        wrongAt(2, "f0:1>1;", "s1;s1;");
        wrongAt(4, "f0>1>1;", "s1;s1;");
        wrongAt(2, "f0;", "s1;s1;");
    }

    private static void endsTooEarly() {
        checks.sentence(4, "or at the length of the text if it ends too early");
        for (String command : new String[] {"s1;", "f0>0:1;", "a0>0:5;", "o0>1:0;"}) {
            for (int length = 1; length < command.length(); length++) {
                wrongAt(length, command.substring(0, length), "s1;s1;");
                wrongAt(3 + length, "s9;" + command.substring(0, length), "s1;s1;");
            }
        }
    }

    private static void endsTooEarlyWhenFull() {
        checks.sentence(4, "A buffer holds at most 60 characters. It contains commands in this form");
        String begin = FOUR + SEVEN_DEPENDENCES.substring(0, 42);
        right(12, begin + "s1;s1;");
        wrongAt(60, begin + "s1;f0>");
        wrongAt(60, begin + "f0>0:1");
        wrongAt(60, "s1;" + SEVEN_DEPENDENCES + "f0>0:1;s");
    }

    private static void missingStatement() {
        checks.sentence(4, "at a statement that does not exist");
        wrongAt(1, "f0>0:1;");
        wrongAt(1, "a1>0:1;", "s1;");
        wrongAt(3, "o0>1:1;", "s1;");
        wrongAt(1, "f9>0:1;", EIGHT);
        wrongAt(1, "f8>0:1;", EIGHT);
        wrongAt(3, "f0>8:1;", EIGHT);
        wrongAt(3, "f0>9:0;", EIGHT);
        right(2, "f7>0:1;f0>7:0;", EIGHT);
    }

    private static void addedBefore() {
        checks.sentence(4, "where those added by the text before count");
        right(2, "s1;f0>0:1;");
        right(3, "s1;s1;f1>0:1;");
        right(3, "s1;f1>2:0;f2>0:1;", "s1;s1;");
        wrongAt(1, "f0>0:1;s1;");
        wrongAt(6, "s1;f0>1:1;s1;");
        wrongAt(4, "s1;f2>1:1;", "s1;");
    }

    private static void distanceZero() {
        checks.sentence(4, "at the distance 0 if the position of the source is not lower than that of the target");
        wrongAt(5, "f0>0:0;", "s1;s1;s1;");
        wrongAt(5, "a1>0:0;", "s1;s1;s1;");
        wrongAt(5, "o2>0:0;", "s1;s1;s1;");
        wrongAt(5, "f2>1:0", "s1;s1;s1;");
        wrongAt(5, "f2>1:0!", "s1;s1;s1;");
        right(3, "f0>1:0;a1>2:0;o0>2:0;", "s1;s1;s1;");
        right(3, "f0>0:1;a1>0:1;o2>1:1;", "s1;s1;s1;");
    }

    private static void positionsAtThatTime() {
        checks.sentence(4, "Positions in a text are those at that time, also of statements added by it.");
        DoacrossScheduler x = Checks.made("s1;s1;s1;");
        x.exchange(0);
        x.exchange(1);
        // The order is 1, 2, 0; a new one stands behind 0.
        Checks.write(x, "f0>2:0;");
        checks.dueThrow("0 stands behind 2", ARGUMENT, x::execute);
        checks.due("at the distance", x.errorPosition(), 5);
        Checks.write(x, "s1;f3>0:0;");
        checks.dueThrow("the new one stands behind 0", ARGUMENT, x::execute);
        checks.due("at the distance", x.errorPosition(), 8);
        Checks.write(x, "f2>0:0;s1;a0>3:0;o1>3:0;");
        checks.due("by positions", Checks.outcome(x::execute), "4");
    }

    private static void nineStatements() {
        checks.sentence(4, "at the first character of a command if there would be more than 8 statements");
        right(8, EIGHT);
        right(1, "s1;", FOUR, "s1;s1;s1;");
        wrongAt(24, EIGHT + "s1;");
        wrongAt(0, "s1;", EIGHT);
        wrongAt(7, "f0>0:1;s1;", EIGHT);
        wrongAt(3, "s1;s1;f0>0:1;", FOUR, "s1;s1;s1;");
        right(1, "f7>0:1;", EIGHT);
    }

    private static void seventeenDependences() {
        checks.sentence(4, "at the first character of a command if there would be more than 8 statements or 16 dependences");
        String[] fifteen = {"s1;s1;" + SEVEN_DEPENDENCES, SEVEN_DEPENDENCES, "f0>1:0;"};
        String[] sixteen = {"s1;s1;" + SEVEN_DEPENDENCES, SEVEN_DEPENDENCES, "f0>1:0;a0>1:0;"};
        for (String kind : new String[] {"f", "a", "o"}) {
            right(1, kind + "0>0:1;", fifteen);
            wrongAt(7, kind + "0>0:1;" + kind + "0>0:1;", fifteen);
            wrongAt(0, kind + "0>1:0;", sixteen);
        }
        right(2, "s1;s1;", sixteen);
        wrongAt(3, "s1;f0>2:0;", sixteen);
        DoacrossScheduler x = Checks.made(sixteen);
        x.eliminate(0);
        Checks.write(x, "f0>0:1;");
        checks.dueThrow("those that are no longer kept count too", ARGUMENT, x::execute);
        x.remove(15);
        Checks.run(x, "f0>0:5;");
        checks.due("room again after remove", x.dependence(15, 3), 5);
    }

    private static void oneTooMany() {
        checks.sentence(4, "A command that would be one too many is wrong at its first character, whatever follows");
        for (String text : new String[] {"s", "s0;", "sx", "s1", "s1;"}) {
            wrongAt(0, text, EIGHT);
            wrongAt(3, "s1;" + text, FOUR, "s1;s1;s1;");
        }
        String[] full = {"s1;" + SEVEN_DEPENDENCES, SEVEN_DEPENDENCES, "f0>0:4;a0>0:4;"};
        for (String text : new String[] {"f", "a9", "ox", "f0>", "a0>0:0;", "o0>0:6;", "f0>0:1;"}) {
            wrongAt(0, text, full);
            wrongAt(3, "s1;" + text, full);
        }
    }

    private static void kinds() {
        checks.sentence(4, "kind = \"f\" | \"a\" | \"o\"");
        DoacrossScheduler x = Checks.made("s1;f0>0:1;a0>0:1;o0>0:1;");
        for (int d = 0; d < 3; d++) {
            checks.due("kind " + d, x.dependence(d, 0), d);
        }
        for (char wrong : "begnprtFAOS0;>:".toCharArray()) {
            wrongAt(0, wrong + "0>0:1;", "s1;");
        }
    }

    private static void costDigits() {
        checks.sentence(4, "A cost is a digit from 1 to 9");
        for (char digit = '1'; digit <= '9'; digit++) {
            DoacrossScheduler x = Checks.made("s" + digit + ";");
            checks.due("the cost " + digit, x.statement(0, 0), digit - '0');
        }
        wrongAt(1, "s0;");
        wrongAt(1, "s/;");
        wrongAt(1, "s:;");
        wrongAt(1, "s;");
        wrongAt(1, "s-1;");
        wrongAt(2, "s10;");
    }

    private static void distanceDigits() {
        checks.sentence(4, "a distance a digit from 0 to 5");
        for (char digit = '0'; digit <= '5'; digit++) {
            DoacrossScheduler x = Checks.made("s1;s1;f0>1:" + digit + ";");
            checks.due("the distance " + digit, x.dependence(0, 3), digit - '0');
        }
        for (char wrong : "6789/:;-".toCharArray()) {
            wrongAt(5, "f0>1:" + wrong + ";", "s1;s1;");
        }
        wrongAt(6, "f0>1:10;", "s1;s1;");
    }

    private static void statementDigits() {
        checks.sentence(4, "a statement a digit");
        for (char digit = '0'; digit <= '7'; digit++) {
            DoacrossScheduler x = Checks.made(EIGHT, "f" + digit + ">" + digit + ":1;");
            checks.due("the source " + digit, x.dependence(0, 1), digit - '0');
            checks.due("the target " + digit, x.dependence(0, 2), digit - '0');
        }
        for (char wrong : "89/:;>a-".toCharArray()) {
            wrongAt(1, "f" + wrong + ">0:1;", EIGHT);
            wrongAt(3, "f0>" + wrong + ":1;", EIGHT);
        }
        wrongAt(2, "f00>0:1;", EIGHT);
        wrongAt(4, "f0>00:1;", EIGHT);
    }
}
