/**
 * A scheduler for doacross loops.
 *
 * The public methods judge the arguments and throw what the document asks for; the classes inside
 * work on what has been judged. All rows are made with the object, so that no call makes another
 * one, however often it comes.
 */
public final class DoacrossScheduler {
    private static final int MAX_STATEMENTS = 8;
    private static final int MAX_DEPENDENCES = 16;
    private static final int MAX_CHARACTERS = 60;
    private static final int MAX_ITERATIONS = 40;
    private static final int MAX_PROCESSORS = 6;
    private static final int MAX_DISTANCE = 5;
    private static final int MAX_COST = 9;

    private static final int MAX_ORDERED = 6;
    private static final int ORDERS_OF_MAX_ORDERED = 720;

    private static final int ITERATIONS = 0;
    private static final int LATENCY = 1;
    private static final int PROCESSORS = 2;
    private static final int ASSIGNMENT = 3;
    private static final int PARAMETERS = 4;
    private static final int[] LEAST_VALUE = {1, 0, 1, 0};
    private static final int[] GREATEST_VALUE = {40, 5, 6, 2};
    private static final int[] FIRST_VALUE = {10, 1, 2, 0};
    private static final int COUNT_OF_PARAMETERS = 10;

    private static final int FLOW = 0;
    private static final int ANTI = 1;
    private static final int OUTPUT = 2;

    private static final int BLOCKS = 1;
    private static final int GREEDY = 2;

    private static final int NONE = -1;

    private final Loop loop;
    private final Loop saved;
    private final Loop draft;
    private final Text text;
    private final Paths paths;
    private final Orders orders;
    private final Run run;
    private boolean hasSnapshot;
    private int lastError;

    public DoacrossScheduler() {
        loop = new Loop();
        saved = new Loop();
        draft = new Loop();
        text = new Text();
        paths = new Paths();
        orders = new Orders();
        run = new Run();
        hasSnapshot = false;
        lastError = NONE;
    }

    public int append(int packed) throws IllegalArgumentException, IllegalStateException {
        if (!Text.isWritable(packed)) {
            throw new IllegalArgumentException("a character is not from 33 to 126");
        }
        if (!text.hasRoomFor(packed)) {
            throw new IllegalStateException("the buffer is full");
        }
        text.add(packed);
        return text.size;
    }

    public int execute() throws IllegalArgumentException {
        draft.copyFrom(loop);
        int commands = text.readInto(draft);
        text.size = 0;
        if (commands == NONE) {
            lastError = text.at;
            throw new IllegalArgumentException("there is an error in the text");
        }
        lastError = NONE;
        loop.copyFrom(draft);
        return commands;
    }

    public int errorPosition() {
        return lastError;
    }

    public int setCost(int statement, int cost) throws IndexOutOfBoundsException, IllegalArgumentException {
        if (!loop.hasStatement(statement)) {
            throw new IndexOutOfBoundsException("there is no such statement");
        }
        if (cost < 1 || cost > MAX_COST) {
            throw new IllegalArgumentException("the cost is out of range");
        }
        int previous = loop.cost[statement];
        loop.cost[statement] = cost;
        return previous;
    }

    public int set(int what, int value) throws IllegalArgumentException {
        if (what < 0 || what >= PARAMETERS) {
            throw new IllegalArgumentException("there is no such parameter");
        }
        if (value < LEAST_VALUE[what] || value > GREATEST_VALUE[what]) {
            throw new IllegalArgumentException("the value is out of range");
        }
        int previous = loop.parameter[what];
        loop.parameter[what] = value;
        return previous;
    }

    public int exchange(int position) throws IndexOutOfBoundsException, IllegalStateException {
        // The second position is judged from below: position + 1 may wrap around.
        if (position < 0 || position >= loop.statements - 1) {
            throw new IndexOutOfBoundsException("there is no such position");
        }
        if (loop.isOrdered(loop.statementAt(position), loop.statementAt(position + 1))) {
            throw new IllegalStateException("a dependence demands this order");
        }
        loop.swap(position, position + 1);
        return loop.statementAt(position);
    }

    public int remove(int dependence) throws IndexOutOfBoundsException {
        if (!loop.hasDependence(dependence)) {
            throw new IndexOutOfBoundsException("there is no such dependence");
        }
        loop.dropDependence(dependence);
        return loop.dependences;
    }

    public int statement(int statement, int what) throws IndexOutOfBoundsException, IllegalArgumentException {
        if (!loop.hasStatement(statement)) {
            throw new IndexOutOfBoundsException("there is no such statement");
        }
        switch (what) {
            case 0:
                return loop.costOf(statement);
            case 1:
                return loop.positionOf(statement);
            case 2:
                loop.measureOffsets();
                return loop.offsetOf(statement);
            default:
                throw new IllegalArgumentException("there is no such property");
        }
    }

    public int dependence(int dependence, int what) throws IndexOutOfBoundsException, IllegalArgumentException {
        if (!loop.hasDependence(dependence)) {
            throw new IndexOutOfBoundsException("there is no such dependence");
        }
        switch (what) {
            case 0:
                return loop.kind[dependence];
            case 1:
                return loop.source[dependence];
            case 2:
                return loop.target[dependence];
            case 3:
                return loop.distance[dependence];
            case 4:
                return loop.lagOf(dependence);
            case 5:
                return loop.kept[dependence] ? 1 : 0;
            default:
                throw new IllegalArgumentException("there is no such property");
        }
    }

    public int lead(int dependence, int mode)
            throws IndexOutOfBoundsException, IllegalArgumentException, IllegalStateException {
        if (!loop.hasDependence(dependence)) {
            throw new IndexOutOfBoundsException("there is no such dependence");
        }
        if (!isMode(mode)) {
            throw new IllegalArgumentException("there is no such mode");
        }
        if (loop.distance[dependence] == 0) {
            throw new IllegalStateException("the distance is 0");
        }
        return paths.greatestSum(loop, dependence, mode);
    }

    public int eliminate(int mode) throws IllegalArgumentException {
        if (!isMode(mode)) {
            throw new IllegalArgumentException("there is no such mode");
        }
        int eliminated = 0;
        for (int distance = MAX_DISTANCE; distance > 0; distance--) {
            for (int d = loop.dependences - 1; d >= 0; d--) {
                if (loop.distance[d] == distance && loop.kept[d] && isImplied(d, mode)) {
                    loop.kept[d] = false;
                    eliminated++;
                }
            }
        }
        return eliminated;
    }

    public int keepAll() {
        int anew = 0;
        for (int d = 0; d < loop.dependences; d++) {
            if (!loop.kept[d]) {
                loop.kept[d] = true;
                anew++;
            }
        }
        return anew;
    }

    public boolean precedes(int first, int second) throws IndexOutOfBoundsException {
        if (!loop.hasStatement(first) || !loop.hasStatement(second)) {
            throw new IndexOutOfBoundsException("there is no such statement");
        }
        return (loop.followersOf(first) >> second & 1) == 1;
    }

    public int delay() {
        return loop.delayWithout(NONE);
    }

    public int critical() {
        int delay = loop.delayWithout(NONE);
        for (int d = 0; d < loop.dependences; d++) {
            if (loop.isSignalled(d) && loop.delayWithout(d) < delay) {
                return d;
            }
        }
        return NONE;
    }

    public int leastDelay() throws UnsupportedOperationException {
        if (loop.statements > MAX_ORDERED) {
            throw new UnsupportedOperationException("there are too many statements");
        }
        orders.search(loop);
        return orders.bestDelay;
    }

    public int reorder() throws UnsupportedOperationException {
        if (loop.statements > MAX_ORDERED) {
            throw new UnsupportedOperationException("there are too many statements");
        }
        orders.search(loop);
        int changed = 0;
        for (int p = 0; p < loop.statements; p++) {
            if (loop.order[p] != orders.bestOrder[p]) {
                changed++;
            }
        }
        for (int p = 0; p < loop.statements; p++) {
            loop.place(orders.bestOrder[p], p);
        }
        return changed;
    }

    public int length() {
        simulate();
        return run.end;
    }

    public int start(int statement, int iteration) throws IndexOutOfBoundsException {
        if (!loop.hasStatement(statement) || !loop.hasIteration(iteration)) {
            throw new IndexOutOfBoundsException("there is no such statement or iteration");
        }
        simulate();
        return run.startOf(statement, iteration);
    }

    public int processor(int iteration) throws IndexOutOfBoundsException {
        if (!loop.hasIteration(iteration)) {
            throw new IndexOutOfBoundsException("there is no such iteration");
        }
        simulate();
        return run.processorOf[iteration];
    }

    public int total(int processor, int what) throws IndexOutOfBoundsException, IllegalArgumentException {
        if (processor < 0 || processor >= loop.parameter[PROCESSORS]) {
            throw new IndexOutOfBoundsException("there is no such processor");
        }
        simulate();
        switch (what) {
            case 0:
                return run.iterations[processor];
            case 1:
                return run.iterations[processor] * loop.sumOfCosts();
            case 2:
                return run.stalls[processor];
            case 3:
                return run.free[processor];
            default:
                throw new IllegalArgumentException("there is no such total");
        }
    }

    public int fill() {
        simulate();
        return run.latestFirstStart();
    }

    public int drain() {
        simulate();
        return run.end - run.earliestEnd();
    }

    public int speedUp(int part) throws IllegalArgumentException, IllegalStateException {
        if (part != 0 && part != 1) {
            throw new IllegalArgumentException("there is no such part");
        }
        if (loop.statements == 0) {
            throw new IllegalStateException("there are no statements");
        }
        simulate();
        int work = loop.sumOfCosts() * loop.parameter[ITERATIONS];
        int divisor = greatestDivisor(work, run.end);
        if (divisor < 1) {
            return 0;
        }
        return (part == 0 ? work : run.end) / divisor;
    }

    public int bestProcessors() {
        int best = 1;
        int leastEnd = 0;
        for (int processors = 1; processors <= MAX_PROCESSORS; processors++) {
            run.simulate(loop, processors);
            if (processors == 1 || run.end < leastEnd) {
                best = processors;
                leastEnd = run.end;
            }
        }
        return best;
    }

    public int signals() {
        int signals = 0;
        for (int d = 0; d < loop.dependences; d++) {
            if (loop.isSignalled(d)) {
                signals += Math.max(0, loop.parameter[ITERATIONS] - loop.distance[d]);
            }
        }
        return signals;
    }

    public int violated() {
        simulate();
        for (int d = 0; d < loop.dependences; d++) {
            if (run.violates(loop, d)) {
                return d;
            }
        }
        return NONE;
    }

    public int save() {
        saved.copyFrom(loop);
        hasSnapshot = true;
        return loop.dependences;
    }

    public int restore() throws IllegalStateException {
        if (!hasSnapshot) {
            throw new IllegalStateException("there is no snapshot");
        }
        loop.copyFrom(saved);
        return loop.dependences;
    }

    public int count(int what) throws IllegalArgumentException {
        // Judged from both sides: what - COUNT_OF_PARAMETERS may wrap around.
        if (what >= COUNT_OF_PARAMETERS && what < COUNT_OF_PARAMETERS + PARAMETERS) {
            return loop.parameter[what - COUNT_OF_PARAMETERS];
        }
        switch (what) {
            case 0:
                return loop.statements;
            case 1:
                return loop.dependences;
            case 2:
                return loop.signalledDependences();
            case 3:
                return text.size;
            case 4:
                return loop.sumOfCosts();
            default:
                throw new IllegalArgumentException("there is no such count");
        }
    }

    private void simulate() {
        run.simulate(loop, loop.parameter[PROCESSORS]);
    }

    private boolean isImplied(int dependence, int mode) {
        return paths.greatestSum(loop, dependence, mode) >= loop.lagOf(dependence);
    }

    private static boolean isMode(int mode) {
        return mode == 0 || mode == 1;
    }

    private static int greatestDivisor(int first, int second) {
        int divisor = first;
        int rest = second;
        // Two ints have their greatest divisor after fewer than 47 steps.
        for (int step = 0; step < 47 && rest != 0; step++) {
            int next = divisor % rest;
            divisor = rest;
            rest = next;
        }
        return divisor;
    }

    /** The loop, the dependences and the parameters: what a snapshot holds. */
    private static final class Loop {
        private int statements;
        private final int[] cost;
        private final int[] position;
        private final int[] order;
        private final int[] offset;
        private int dependences;
        private final int[] kind;
        private final int[] source;
        private final int[] target;
        private final int[] distance;
        private final boolean[] kept;
        private final int[] parameter;

        Loop() {
            cost = new int[MAX_STATEMENTS];
            position = new int[MAX_STATEMENTS];
            order = new int[MAX_STATEMENTS];
            offset = new int[MAX_STATEMENTS];
            kind = new int[MAX_DEPENDENCES];
            source = new int[MAX_DEPENDENCES];
            target = new int[MAX_DEPENDENCES];
            distance = new int[MAX_DEPENDENCES];
            kept = new boolean[MAX_DEPENDENCES];
            parameter = new int[PARAMETERS];
            for (int k = 0; k < PARAMETERS; k++) {
                parameter[k] = FIRST_VALUE[k];
            }
        }

        void copyFrom(Loop other) {
            statements = other.statements;
            for (int s = 0; s < MAX_STATEMENTS; s++) {
                cost[s] = other.cost[s];
                position[s] = other.position[s];
                order[s] = other.order[s];
            }
            dependences = other.dependences;
            for (int d = 0; d < MAX_DEPENDENCES; d++) {
                copyDependence(other, d, d);
            }
            for (int k = 0; k < PARAMETERS; k++) {
                parameter[k] = other.parameter[k];
            }
        }

        boolean hasStatement(int statement) {
            return statement >= 0 && statement < statements;
        }

        boolean hasPosition(int at) {
            return at >= 0 && at < statements;
        }

        boolean hasDependence(int dependence) {
            return dependence >= 0 && dependence < dependences;
        }

        boolean hasIteration(int iteration) {
            return iteration >= 0 && iteration < parameter[ITERATIONS];
        }

        int costOf(int statement) {
            return statement >= 0 && statement < cost.length ? cost[statement] : 0;
        }

        int positionOf(int statement) {
            return statement >= 0 && statement < position.length ? position[statement] : 0;
        }

        int statementAt(int at) {
            return at >= 0 && at < order.length ? order[at] : 0;
        }

        /** Holds what measureOffsets has found last: costs and positions may have changed since. */
        int offsetOf(int statement) {
            return statement >= 0 && statement < offset.length ? offset[statement] : 0;
        }

        void measureOffsets() {
            int sum = 0;
            for (int at = 0; at < statements; at++) {
                int statement = order[at];
                if (hasStatement(statement)) {
                    offset[statement] = sum;
                    sum += cost[statement];
                }
            }
        }

        int sumOfCosts() {
            int sum = 0;
            for (int s = 0; s < statements; s++) {
                sum += cost[s];
            }
            return sum;
        }

        void addStatement(int itsCost) {
            if (statements < MAX_STATEMENTS) {
                cost[statements] = itsCost;
                position[statements] = statements;
                order[statements] = statements;
                statements++;
            }
        }

        void addDependence(int itsKind, int itsSource, int itsTarget, int itsDistance) {
            if (dependences < MAX_DEPENDENCES) {
                kind[dependences] = itsKind;
                source[dependences] = itsSource;
                target[dependences] = itsTarget;
                distance[dependences] = itsDistance;
                kept[dependences] = true;
                dependences++;
            }
        }

        void dropDependence(int dependence) {
            if (hasDependence(dependence)) {
                dependences--;
                for (int d = dependence; d < dependences; d++) {
                    copyDependence(this, d + 1, d);
                }
            }
        }

        private void copyDependence(Loop other, int from, int to) {
            if (from >= 0 && from < MAX_DEPENDENCES && to >= 0 && to < MAX_DEPENDENCES) {
                kind[to] = other.kind[from];
                source[to] = other.source[from];
                target[to] = other.target[from];
                distance[to] = other.distance[from];
                kept[to] = other.kept[from];
            }
        }

        void place(int statement, int at) {
            if (hasStatement(statement) && hasPosition(at)) {
                order[at] = statement;
                position[statement] = at;
            }
        }

        void swap(int low, int high) {
            int lower = statementAt(low);
            int higher = statementAt(high);
            place(higher, low);
            place(lower, high);
        }

        /** Tells whether a dependence with the distance 0 leads straight from the former to the latter. */
        boolean isOrdered(int former, int latter) {
            for (int d = 0; d < dependences; d++) {
                if (distance[d] == 0 && source[d] == former && target[d] == latter) {
                    return true;
                }
            }
            return false;
        }

        boolean isLegalOrder() {
            for (int d = 0; d < dependences; d++) {
                if (distance[d] == 0 && positionOf(source[d]) >= positionOf(target[d])) {
                    return false;
                }
            }
            return true;
        }

        /** The statements that must follow a statement in the same iteration, a bit each. */
        int followersOf(int statement) {
            int followers = 0;
            // Such dependences only lead to higher positions, so one pass upwards meets them all.
            for (int at = positionOf(statement); at < statements; at++) {
                int former = statementAt(at);
                if (former == statement || (followers >> former & 1) == 1) {
                    followers |= nextOf(former);
                }
            }
            return followers;
        }

        private int nextOf(int statement) {
            int next = 0;
            for (int d = 0; d < dependences; d++) {
                if (distance[d] == 0 && source[d] == statement) {
                    next |= 1 << target[d];
                }
            }
            return next;
        }

        /** Tells whether signals enforce a dependence. */
        boolean isSignalled(int dependence) {
            return hasDependence(dependence) && kept[dependence] && distance[dependence] > 0;
        }

        int signalledDependences() {
            int signalled = 0;
            for (int d = 0; d < dependences; d++) {
                if (isSignalled(d)) {
                    signalled++;
                }
            }
            return signalled;
        }

        int lagOf(int dependence) {
            int latency = parameter[LATENCY];
            if (!hasDependence(dependence)) {
                return latency;
            }
            switch (kind[dependence]) {
                case FLOW:
                    return costOf(source[dependence]) + latency;
                case OUTPUT:
                    return Math.max(1, costOf(source[dependence]) - costOf(target[dependence]) + 1) + latency;
                default:
                    return 1 + latency;
            }
        }

        /** The delay as if one dependence were not kept; NONE leaves none out. */
        int delayWithout(int leftOut) {
            measureOffsets();
            int delay = 0;
            for (int d = 0; d < dependences; d++) {
                if (d != leftOut && isSignalled(d)) {
                    delay = Math.max(delay, delayBy(d));
                }
            }
            return delay;
        }

        private int delayBy(int dependence) {
            if (!hasDependence(dependence)) {
                return 0;
            }
            int apart = distance[dependence];
            int gap = offsetOf(source[dependence]) + lagOf(dependence) - offsetOf(target[dependence]);
            return gap > 0 && apart > 0 ? (gap + apart - 1) / apart : 0;
        }
    }

    /** The buffer, and the reader of the text in it. */
    private static final class Text {
        private final char[] characters;
        private int size;
        /** Where the reader stands; after an error, the error's position. */
        private int at;

        Text() {
            characters = new char[MAX_CHARACTERS];
        }

        static boolean isWritable(int packed) {
            for (int shift = 24; shift >= 0; shift -= 8) {
                int character = packed >> shift & 255;
                if (character != 0 && (character < 33 || character > 126)) {
                    return false;
                }
            }
            return true;
        }

        boolean hasRoomFor(int packed) {
            int more = 0;
            for (int shift = 24; shift >= 0; shift -= 8) {
                if ((packed >> shift & 255) != 0) {
                    more++;
                }
            }
            return size + more <= MAX_CHARACTERS;
        }

        void add(int packed) {
            for (int shift = 24; shift >= 0; shift -= 8) {
                int character = packed >> shift & 255;
                if (character != 0 && size < MAX_CHARACTERS) {
                    characters[size] = (char) character;
                    size++;
                }
            }
        }

        /** Executes the commands on a loop; returns their number, or NONE if there is an error. */
        int readInto(Loop loop) {
            at = 0;
            for (int commands = 1; commands <= MAX_CHARACTERS; commands++) {
                if (!readCommand(loop)) {
                    return NONE;
                }
                if (at >= size) {
                    return commands;
                }
            }
            return NONE;
        }

        private boolean readCommand(Loop loop) {
            switch (current()) {
                case 's':
                    return readStatement(loop);
                case 'f':
                    return readDependence(loop, FLOW);
                case 'a':
                    return readDependence(loop, ANTI);
                case 'o':
                    return readDependence(loop, OUTPUT);
                default:
                    return false;
            }
        }

        private boolean readStatement(Loop loop) {
            if (loop.statements >= MAX_STATEMENTS) {
                return false;
            }
            at++;
            int cost = digit();
            if (cost < 1) {
                return false;
            }
            at++;
            if (!passes(';')) {
                return false;
            }
            loop.addStatement(cost);
            return true;
        }

        private boolean readDependence(Loop loop, int kind) {
            if (loop.dependences >= MAX_DEPENDENCES) {
                return false;
            }
            at++;
            int source = digit();
            if (!loop.hasStatement(source)) {
                return false;
            }
            at++;
            if (!passes('>')) {
                return false;
            }
            int target = digit();
            if (!loop.hasStatement(target)) {
                return false;
            }
            at++;
            if (!passes(':')) {
                return false;
            }
            int distance = digit();
            if (distance < 0 || distance > MAX_DISTANCE) {
                return false;
            }
            if (distance == 0 && loop.positionOf(source) >= loop.positionOf(target)) {
                return false;
            }
            at++;
            if (!passes(';')) {
                return false;
            }
            loop.addDependence(kind, source, target, distance);
            return true;
        }

        /** The character where the reader stands, or 0, which no text holds, at the end. */
        private char current() {
            return at >= 0 && at < size && at < MAX_CHARACTERS ? characters[at] : (char) 0;
        }

        private int digit() {
            char character = current();
            return character >= '0' && character <= '9' ? character - '0' : NONE;
        }

        private boolean passes(char due) {
            if (current() != due) {
                return false;
            }
            at++;
            return true;
        }
    }

    /** Finds the greatest sums of paths through the iterations that a dependence spans. */
    private static final class Paths {
        /** The greatest sum up to each statement, by iteration and position; NONE where no path leads. */
        private final int[] greatest;

        Paths() {
            greatest = new int[(MAX_DISTANCE + 1) * MAX_STATEMENTS];
        }

        int greatestSum(Loop loop, int dependence, int mode) {
            if (!loop.hasDependence(dependence)) {
                return NONE;
            }
            int last = loop.distance[dependence];
            for (int node = 0; node < greatest.length; node++) {
                greatest[node] = NONE;
            }
            raise(0, loop.positionOf(loop.source[dependence]), 0);
            // Every edge leads to a higher position or a higher iteration, so one pass is enough.
            for (int iteration = 0; iteration <= last; iteration++) {
                for (int at = 0; at < loop.statements; at++) {
                    int sum = sumAt(iteration, at);
                    if (sum >= 0) {
                        followBody(loop, iteration, at, sum);
                        followSignals(loop, dependence, iteration, at, sum);
                    }
                }
                if (mode == 1) {
                    followProcessor(loop, iteration);
                }
            }
            return sumAt(last, loop.positionOf(loop.target[dependence]));
        }

        private void followBody(Loop loop, int iteration, int at, int sum) {
            if (loop.hasPosition(at + 1)) {
                raise(iteration, at + 1, sum + loop.costOf(loop.statementAt(at)));
            }
        }

        private void followSignals(Loop loop, int leftOut, int iteration, int at, int sum) {
            int statement = loop.statementAt(at);
            for (int d = 0; d < loop.dependences; d++) {
                if (d != leftOut && loop.source[d] == statement && loop.isSignalled(d)) {
                    raise(iteration + loop.distance[d], loop.positionOf(loop.target[d]), sum + loop.lagOf(d));
                }
            }
        }

        private void followProcessor(Loop loop, int iteration) {
            int end = loop.statements - 1;
            int sum = sumAt(iteration, end);
            if (sum >= 0) {
                raise(iteration + loop.parameter[PROCESSORS], 0, sum + loop.costOf(loop.statementAt(end)));
            }
        }

        private static boolean isNode(int iteration, int at) {
            return iteration >= 0 && iteration <= MAX_DISTANCE && at >= 0 && at < MAX_STATEMENTS;
        }

        private int sumAt(int iteration, int at) {
            return isNode(iteration, at) ? greatest[iteration * MAX_STATEMENTS + at] : NONE;
        }

        private void raise(int iteration, int at, int sum) {
            if (isNode(iteration, at)) {
                int node = iteration * MAX_STATEMENTS + at;
                greatest[node] = Math.max(greatest[node], sum);
            }
        }
    }

    /** Searches the orders of the statements for the least delay. */
    private static final class Orders {
        private final Loop trial;
        private final int[] bestOrder;
        private int bestDelay;

        Orders() {
            trial = new Loop();
            bestOrder = new int[MAX_STATEMENTS];
        }

        /** Goes through the orders as they follow lexicographically, so that the first of the best stays. */
        void search(Loop loop) {
            trial.copyFrom(loop);
            for (int s = 0; s < trial.statements; s++) {
                trial.place(s, s);
            }
            bestDelay = NONE;
            boolean more = true;
            for (int tried = 0; more && tried < ORDERS_OF_MAX_ORDERED; tried++) {
                consider();
                more = advance();
            }
        }

        private void consider() {
            if (!trial.isLegalOrder()) {
                return;
            }
            int delay = trial.delayWithout(NONE);
            if (bestDelay == NONE || delay < bestDelay) {
                bestDelay = delay;
                for (int at = 0; at < trial.statements; at++) {
                    bestOrder[at] = trial.order[at];
                }
            }
        }

        /** Turns to the lexicographically next order; returns whether there is one. */
        private boolean advance() {
            int last = trial.statements - 1;
            int turn = last - 1;
            while (turn >= 0 && trial.statementAt(turn) > trial.statementAt(turn + 1)) {
                turn--;
            }
            if (turn < 0) {
                return false;
            }
            int other = last;
            while (other > turn && trial.statementAt(other) < trial.statementAt(turn)) {
                other--;
            }
            trial.swap(turn, other);
            int low = turn + 1;
            int high = last;
            while (low < high) {
                trial.swap(low, high);
                low++;
                high--;
            }
            return true;
        }
    }

    /** A simulated run of the loop. */
    private static final class Run {
        /** The starts by iteration and statement. */
        private final int[] starts;
        private final int[] processorOf;
        private final int[] iterations;
        private final int[] firstStart;
        private final int[] stalls;
        private final int[] free;
        private int end;

        Run() {
            starts = new int[MAX_ITERATIONS * MAX_STATEMENTS];
            processorOf = new int[MAX_ITERATIONS];
            iterations = new int[MAX_PROCESSORS];
            firstStart = new int[MAX_PROCESSORS];
            stalls = new int[MAX_PROCESSORS];
            free = new int[MAX_PROCESSORS];
        }

        void simulate(Loop loop, int processors) {
            end = 0;
            for (int p = 0; p < MAX_PROCESSORS; p++) {
                iterations[p] = 0;
                firstStart[p] = 0;
                stalls[p] = 0;
                free[p] = 0;
            }
            // A start hangs on lower iterations only, so these can run one after the other.
            for (int i = 0; i < loop.parameter[ITERATIONS] && i < MAX_ITERATIONS; i++) {
                int chosen = choose(loop, i, processors);
                processorOf[i] = chosen;
                runIteration(loop, i, chosen);
            }
        }

        private int choose(Loop loop, int iteration, int processors) {
            int all = loop.parameter[ITERATIONS];
            if (processors < 1 || all < 1) {
                return 0;
            }
            switch (loop.parameter[ASSIGNMENT]) {
                case BLOCKS:
                    return iteration * processors / all;
                case GREEDY:
                    return firstFree(processors);
                default:
                    return iteration % processors;
            }
        }

        private int firstFree(int processors) {
            int first = 0;
            for (int p = 1; p < processors && p < MAX_PROCESSORS; p++) {
                if (free[p] < free[first]) {
                    first = p;
                }
            }
            return first;
        }

        private void runIteration(Loop loop, int iteration, int chosen) {
            if (chosen < 0 || chosen >= MAX_PROCESSORS) {
                return;
            }
            for (int at = 0; at < loop.statements; at++) {
                int statement = loop.statementAt(at);
                int begin = Math.max(free[chosen], latestSignal(loop, statement, iteration));
                if (at == 0 && iterations[chosen] == 0) {
                    firstStart[chosen] = begin;
                }
                stalls[chosen] += begin - free[chosen];
                free[chosen] = begin + loop.costOf(statement);
                keepStart(statement, iteration, begin);
            }
            iterations[chosen]++;
            end = Math.max(end, free[chosen]);
        }

        private int latestSignal(Loop loop, int statement, int iteration) {
            int latest = 0;
            for (int d = 0; d < loop.dependences; d++) {
                if (loop.target[d] == statement && loop.distance[d] <= iteration && loop.isSignalled(d)) {
                    int sent = startOf(loop.source[d], iteration - loop.distance[d]);
                    latest = Math.max(latest, sent + loop.lagOf(d));
                }
            }
            return latest;
        }

        boolean violates(Loop loop, int dependence) {
            if (!loop.hasDependence(dependence)) {
                return false;
            }
            int source = loop.source[dependence];
            int target = loop.target[dependence];
            int apart = loop.distance[dependence];
            int lag = loop.lagOf(dependence) - (apart == 0 ? loop.parameter[LATENCY] : 0);
            for (int i = 0; i + apart < loop.parameter[ITERATIONS]; i++) {
                if (startOf(target, i + apart) < startOf(source, i) + lag) {
                    return true;
                }
            }
            return false;
        }

        private static boolean isCell(int statement, int iteration) {
            return statement >= 0 && statement < MAX_STATEMENTS && iteration >= 0 && iteration < MAX_ITERATIONS;
        }

        int startOf(int statement, int iteration) {
            return isCell(statement, iteration) ? starts[iteration * MAX_STATEMENTS + statement] : 0;
        }

        private void keepStart(int statement, int iteration, int begin) {
            if (isCell(statement, iteration)) {
                starts[iteration * MAX_STATEMENTS + statement] = begin;
            }
        }

        int latestFirstStart() {
            int latest = 0;
            for (int p = 0; p < MAX_PROCESSORS; p++) {
                if (iterations[p] > 0) {
                    latest = Math.max(latest, firstStart[p]);
                }
            }
            return latest;
        }

        int earliestEnd() {
            int earliest = end;
            for (int p = 0; p < MAX_PROCESSORS; p++) {
                if (iterations[p] > 0) {
                    earliest = Math.min(earliest, free[p]);
                }
            }
            return earliest;
        }
    }
}
