import java.util.ArrayList;
import java.util.Arrays;
import java.util.List;

/**
 * Long runs of calls, each answered by the scheduler and by a model that does what the document says in another,
 * slower way: sums of paths by relaxing edges, delays by trying, runs cycle by cycle.
 */
public final class ModelTest {
    private static final int RUNS = 300;
    private static final int CALLS = 512;
    private static final String[] NAMES = {"append", "execute", "errorPosition", "setCost", "set", "exchange", "remove",
        "statement", "dependence", "lead", "eliminate", "keepAll", "precedes", "delay", "critical", "leastDelay",
        "reorder", "length", "start", "processor", "total", "fill", "drain", "speedUp", "bestProcessors", "signals",
        "violated", "save", "restore", "count"};

    private static long seed = 20261118;
    private static int pending = 0;
    private static String text = "";
    // What a run's texts add: runs with few statements or dependences meet other edges than full ones.
    private static int mostStatements = 0;
    private static int mostDependences = 0;

    public static void main(String[] args) throws Exception {
        int calls = 0;
        for (int run = 0; run < RUNS; run++) {
            calls += play(run);
        }
        System.out.println(calls + " calls answered as the model does");
    }

    private static int below(int bound) {
        seed = seed * 6364136223846793005L + 1442695040888963407L;
        return (int) ((seed >>> 33) % bound);
    }

    private static int play(int run) throws Exception {
        DoacrossScheduler scheduler = new DoacrossScheduler();
        Model model = new Model();
        List<String> told = new ArrayList<>();
        text = "";
        pending = 0;
        mostStatements = run % 10;
        mostDependences = run / 10 % 3 * 8 + 2;
        for (int call = 0; call < CALLS; call++) {
            String name = nextName(call, model);
            int[] arguments = argumentsOf(name, model);
            String want = Checks.answer(model, name, arguments);
            String got = Checks.answer(scheduler, name, arguments);
            told.add(name + Arrays.toString(arguments) + ": " + got);
            if (!got.equals(want)) {
                told.forEach(System.out::println);
                System.out.println("run " + run + ": the last answer is " + got + ", the model's is " + want);
                System.exit(1);
            }
        }
        return CALLS;
    }

    private static String nextName(int call, Model model) {
        if (pending < text.length()) {
            return "append";
        }
        if (!text.isEmpty()) {
            text = "";
            pending = 0;
            return "execute";
        }
        if (call < 6 || below(12) == 0) {
            text = randomText(model);
            return "append";
        }
        return NAMES[below(NAMES.length)];
    }

    private static String randomText(Model model) {
        StringBuilder made = new StringBuilder();
        int commands = 1 + below(7);
        int statements = model.costs.size();
        int dependences = model.dependences.size();
        for (int i = 0; i < commands; i++) {
            if (below(2) == 0 && statements < mostStatements) {
                made.append('s').append(1 + below(9)).append(';');
                statements++;
            } else if (statements > 0 && dependences < mostDependences) {
                made.append("fao".charAt(below(3))).append(below(statements)).append('>').append(below(statements));
                made.append(':').append(below(6)).append(';');
                dependences++;
            }
        }
        if (made.length() == 0) {
            made.append("f0>0:1;");
        }
        if (below(6) == 0) {
            made.setCharAt(below(made.length()), "s;f>:0918ax".charAt(below(11)));
        }
        if (below(8) == 0) {
            made.setLength(1 + below(made.length()));
        }
        return made.length() > 60 ? made.substring(0, 60) : made.toString();
    }

    private static int[] argumentsOf(String name, Model model) {
        boolean odd = below(25) == 0;
        int s = Math.max(1, model.costs.size());
        int d = Math.max(1, model.dependences.size());
        switch (name) {
            case "append":
                int from = pending;
                pending += 4;
                return text.isEmpty() ? new int[] {below(2) == 0 ? 0 : oddNumber()} : new int[] {Checks.packed(text, from)};
            case "setCost":
                return new int[] {odd ? oddNumber() : below(s), 1 + below(9 + below(2))};
            case "set":
                int what = odd ? oddNumber() : below(4);
                return new int[] {what, what == 0 && below(2) == 0 ? 1 + below(40) : below(7)};
            case "exchange":
                return new int[] {odd ? oddNumber() : below(s)};
            case "remove":
                return new int[] {odd || below(2) == 0 ? oddNumber() : below(d)};
            case "statement":
                return new int[] {odd ? oddNumber() : below(s), below(20) == 0 ? oddNumber() : below(3)};
            case "dependence":
                return new int[] {odd ? oddNumber() : below(d), below(20) == 0 ? oddNumber() : below(6)};
            case "lead":
                return new int[] {odd ? oddNumber() : below(d), below(20) == 0 ? oddNumber() : below(2)};
            case "eliminate":
                return new int[] {odd ? oddNumber() : below(2)};
            case "precedes":
                return new int[] {odd ? oddNumber() : below(s), below(20) == 0 ? oddNumber() : below(s)};
            case "start":
                return new int[] {odd ? oddNumber() : below(s), below(20) == 0 ? oddNumber() : below(model.parameters[0])};
            case "processor":
                return new int[] {odd ? oddNumber() : below(model.parameters[0])};
            case "total":
                return new int[] {odd ? oddNumber() : below(model.parameters[2]), below(20) == 0 ? oddNumber() : below(4)};
            case "speedUp":
                return new int[] {odd ? oddNumber() : below(2)};
            case "count":
                return new int[] {odd ? oddNumber() : below(2) == 0 ? below(5) : 10 + below(4)};
            default:
                return new int[0];
        }
    }

    private static int oddNumber() {
        int[] odd = {-1, Integer.MIN_VALUE, Integer.MAX_VALUE, 40, 16, 8, 7, 6, 5, 4, 3, 2, 14, 9, -8, 1 << 24};
        return odd[below(odd.length)];
    }

    private static final class Dependence {
        int kind;
        int source;
        int target;
        int distance;
        boolean kept = true;

        Dependence copy() {
            Dependence copy = new Dependence();
            copy.kind = kind;
            copy.source = source;
            copy.target = target;
            copy.distance = distance;
            copy.kept = kept;
            return copy;
        }
    }

    private static final class Model {
        List<Integer> costs = new ArrayList<>();
        /** The statements by positions. */
        List<Integer> body = new ArrayList<>();
        List<Dependence> dependences = new ArrayList<>();
        int[] parameters = {10, 1, 2, 0};
        private String buffer = "";
        private int error = -1;
        private Model snapshot;

        // What the last run found; null when the state has changed since.
        private int[][] starts;
        private int[] assigned;
        private int[] freeAt;
        private int ranWith;

        private static List<Dependence> copies(List<Dependence> of) {
            List<Dependence> copies = new ArrayList<>();
            for (Dependence one : of) {
                copies.add(one.copy());
            }
            return copies;
        }

        private void take(Model other) {
            costs = new ArrayList<>(other.costs);
            body = new ArrayList<>(other.body);
            dependences = copies(other.dependences);
            parameters = other.parameters.clone();
            starts = null;
        }

        private int n() {
            return parameters[0];
        }

        private void needStatement(int s) {
            if (s < 0 || s >= costs.size()) {
                throw new IndexOutOfBoundsException();
            }
        }

        private Dependence needDependence(int d) {
            if (d < 0 || d >= dependences.size()) {
                throw new IndexOutOfBoundsException();
            }
            return dependences.get(d);
        }

        private static void need(boolean legal) {
            if (!legal) {
                throw new IllegalArgumentException();
            }
        }

        int append(int packed) {
            StringBuilder more = new StringBuilder();
            for (byte one : new byte[] {(byte) (packed >>> 24), (byte) (packed >>> 16), (byte) (packed >>> 8), (byte) packed}) {
                need(one == 0 || one >= 33 && one <= 126);
                if (one != 0) {
                    more.append((char) one);
                }
            }
            if (buffer.length() + more.length() > 60) {
                throw new IllegalStateException();
            }
            buffer += more;
            return buffer.length();
        }

        int execute() {
            String read = buffer;
            buffer = "";
            Model trial = new Model();
            trial.take(this);
            int commands = 0;
            int at = 0;
            do {
                int length = trial.command(read, at);
                if (length < 0) {
                    error = at + ~length;
                    throw new IllegalArgumentException();
                }
                at += length;
                commands++;
            } while (at < read.length());
            error = -1;
            take(trial);
            return commands;
        }

        /** The length of the command, or the complement of the error's place in it. */
        private int command(String read, int at) {
            String rest = read.substring(at);
            boolean adds = rest.startsWith("s");
            int kind = rest.isEmpty() ? -1 : "fao".indexOf(rest.charAt(0));
            if (!adds && kind < 0 || (adds ? costs.size() == 8 : dependences.size() == 16)) {
                return ~0;
            }
            String form = adds ? "s#;" : rest.charAt(0) + "#>#:#;";
            int[] numbers = new int[7];
            for (int i = 0; i < form.length(); i++) {
                if (i >= rest.length()) {
                    return ~i;
                }
                char found = rest.charAt(i);
                boolean number = form.charAt(i) == '#';
                if (number ? "0123456789".indexOf(found) < 0 : found != form.charAt(i)) {
                    return ~i;
                }
                numbers[i] = found - '0';
                boolean wrong = adds && i == 1 && numbers[1] == 0;
                wrong |= !adds && (i == 1 || i == 3) && numbers[i] >= costs.size();
                wrong |= !adds && i == 5 && numbers[5] > 5;
                if (wrong || !adds && i == 5 && numbers[5] == 0 && body.indexOf(numbers[1]) >= body.indexOf(numbers[3])) {
                    return ~i;
                }
            }
            if (adds) {
                body.add(costs.size());
                costs.add(numbers[1]);
                return 3;
            }
            Dependence made = new Dependence();
            made.kind = kind;
            made.source = numbers[1];
            made.target = numbers[3];
            made.distance = numbers[5];
            dependences.add(made);
            return 7;
        }

        int errorPosition() {
            return error;
        }

        int setCost(int s, int cost) {
            needStatement(s);
            need(cost >= 1 && cost <= 9);
            starts = null;
            return costs.set(s, cost);
        }

        int set(int what, int value) {
            need(what >= 0 && what < 4);
            need(value >= (what % 2 == 0 ? 1 : 0) && value <= new int[] {40, 5, 6, 2}[what]);
            int previous = parameters[what];
            parameters[what] = value;
            starts = null;
            return previous;
        }

        int exchange(int position) {
            if (position < 0 || (long) position + 1 >= body.size()) {
                throw new IndexOutOfBoundsException();
            }
            int former = body.get(position);
            int latter = body.get(position + 1);
            if (dependences.stream().anyMatch(d -> d.distance == 0 && d.source == former && d.target == latter)) {
                throw new IllegalStateException();
            }
            body.set(position, latter);
            body.set(position + 1, former);
            starts = null;
            return latter;
        }

        int remove(int d) {
            needDependence(d);
            dependences.remove(d);
            starts = null;
            return dependences.size();
        }

        private int offset(int s, List<Integer> order) {
            return order.subList(0, order.indexOf(s)).stream().mapToInt(costs::get).sum();
        }

        int statement(int s, int what) {
            needStatement(s);
            need(what >= 0 && what <= 2);
            return what == 0 ? costs.get(s) : what == 1 ? body.indexOf(s) : offset(s, body);
        }

        private int lag(Dependence d) {
            int[] base = {costs.get(d.source), 1, Math.max(1, costs.get(d.source) - costs.get(d.target) + 1)};
            return base[d.kind] + parameters[1];
        }

        int dependence(int number, int what) {
            Dependence d = needDependence(number);
            need(what >= 0 && what <= 5);
            return new int[] {d.kind, d.source, d.target, d.distance, lag(d), d.kept ? 1 : 0}[what];
        }

        int lead(int number, int mode) {
            Dependence d = needDependence(number);
            need(mode == 0 || mode == 1);
            if (d.distance == 0) {
                throw new IllegalStateException();
            }
            return leadOf(d, mode);
        }

        /** Relaxes every edge until nothing changes; a node's number is 10 * iteration + statement. */
        private int leadOf(Dependence considered, int mode) {
            List<int[]> edges = new ArrayList<>();
            for (int i = 0; i <= considered.distance; i++) {
                for (int p = 0; p + 1 < body.size(); p++) {
                    edges.add(new int[] {10 * i + body.get(p), 10 * i + body.get(p + 1), costs.get(body.get(p))});
                }
                for (Dependence d : dependences) {
                    if (d != considered && d.kept && d.distance > 0 && i + d.distance <= considered.distance) {
                        edges.add(new int[] {10 * i + d.source, 10 * (i + d.distance) + d.target, lag(d)});
                    }
                }
                int last = body.get(body.size() - 1);
                if (mode == 1 && i + parameters[2] <= considered.distance) {
                    edges.add(new int[] {10 * i + last, 10 * (i + parameters[2]) + body.get(0), costs.get(last)});
                }
            }
            int[] sums = new int[60];
            Arrays.fill(sums, -1);
            sums[considered.source] = 0;
            boolean changed = true;
            while (changed) {
                changed = false;
                for (int[] edge : edges) {
                    if (sums[edge[0]] >= 0 && sums[edge[0]] + edge[2] > sums[edge[1]]) {
                        sums[edge[1]] = sums[edge[0]] + edge[2];
                        changed = true;
                    }
                }
            }
            return sums[10 * considered.distance + considered.target];
        }

        int eliminate(int mode) {
            need(mode == 0 || mode == 1);
            List<Dependence> considered = new ArrayList<>();
            for (Dependence d : dependences) {
                if (d.kept && d.distance > 0) {
                    considered.add(0, d);
                }
            }
            considered.sort((a, b) -> b.distance - a.distance);
            int eliminated = 0;
            for (Dependence d : considered) {
                if (leadOf(d, mode) >= lag(d)) {
                    d.kept = false;
                    eliminated++;
                }
            }
            starts = null;
            return eliminated;
        }

        int keepAll() {
            int anew = 0;
            for (Dependence d : dependences) {
                anew += d.kept ? 0 : 1;
                d.kept = true;
            }
            starts = null;
            return anew;
        }

        boolean precedes(int first, int second) {
            needStatement(first);
            needStatement(second);
            for (Dependence d : dependences) {
                if (d.distance == 0 && d.source == first && (d.target == second || precedes(d.target, second))) {
                    return true;
                }
            }
            return false;
        }

        private int delayOf(List<Integer> order, Dependence without) {
            int delay = 0;
            boolean enough = false;
            while (!enough) {
                enough = true;
                for (Dependence d : dependences) {
                    if (d != without && d.kept && d.distance > 0
                            && delay * d.distance < offset(d.source, order) + lag(d) - offset(d.target, order)) {
                        enough = false;
                    }
                }
                delay += enough ? 0 : 1;
            }
            return delay;
        }

        int delay() {
            return delayOf(body, null);
        }

        int critical() {
            int delay = delay();
            for (Dependence d : dependences) {
                if (d.kept && delayOf(body, d) < delay) {
                    return dependences.indexOf(d);
                }
            }
            return -1;
        }

        private void collect(List<Integer> begun, List<List<Integer>> all) {
            if (begun.size() == costs.size()) {
                all.add(new ArrayList<>(begun));
            }
            for (int s = 0; s < costs.size(); s++) {
                int next = s;
                if (!begun.contains(s) && dependences.stream().allMatch(
                        d -> d.distance != 0 || d.target != next || begun.contains(d.source))) {
                    begun.add(s);
                    collect(begun, all);
                    begun.remove(begun.size() - 1);
                }
            }
        }

        private List<Integer> bestOrder() {
            if (costs.size() > 6) {
                throw new UnsupportedOperationException();
            }
            List<List<Integer>> all = new ArrayList<>();
            collect(new ArrayList<>(), all);
            List<Integer> best = all.get(0);
            int least = delayOf(best, null);
            for (List<Integer> order : all) {
                if (least > 0 && delayOf(order, null) < least) {
                    best = order;
                    least = delayOf(order, null);
                }
            }
            return best;
        }

        int leastDelay() {
            return delayOf(bestOrder(), null);
        }

        int reorder() {
            List<Integer> best = bestOrder();
            int changed = 0;
            for (int p = 0; p < body.size(); p++) {
                changed += body.get(p).equals(best.get(p)) ? 0 : 1;
            }
            body = best;
            starts = null;
            return changed;
        }

        private void run(int processors) {
            if (starts != null && ranWith == processors) {
                return;
            }
            ranWith = processors;
            assigned = new int[n()];
            for (int i = 0; i < n(); i++) {
                if (parameters[3] == 0) {
                    assigned[i] = i % processors;
                } else if (parameters[3] == 1) {
                    assigned[i] = (int) Math.floor((double) (i * processors) / n());
                } else {
                    tick(i, processors);
                    for (int p = processors - 1; p >= 0; p--) {
                        assigned[i] = freeAt[p] <= freeAt[assigned[i]] ? p : assigned[i];
                    }
                }
            }
            tick(n(), processors);
        }

        /** Lets the processors work on the first iterations, cycle by cycle. */
        private void tick(int iterations, int processors) {
            starts = new int[n()][costs.size()];
            freeAt = new int[processors];
            for (int[] row : starts) {
                Arrays.fill(row, Integer.MAX_VALUE / 2);
            }
            int[] done = new int[iterations];
            int left = iterations * costs.size();
            for (int now = 0; left > 0; now++) {
                for (int p = 0; p < processors; p++) {
                    int i = 0;
                    while (i < iterations && (assigned[i] != p || done[i] == costs.size())) {
                        i++;
                    }
                    if (i < iterations && freeAt[p] <= now && isReady(body.get(done[i]), i, now)) {
                        starts[i][body.get(done[i])] = now;
                        freeAt[p] = now + costs.get(body.get(done[i]));
                        done[i]++;
                        left--;
                    }
                }
            }
        }

        private boolean isReady(int s, int i, int now) {
            for (Dependence d : dependences) {
                if (d.kept && d.distance > 0 && d.target == s && i >= d.distance
                        && now < starts[i - d.distance][d.source] + lag(d)) {
                    return false;
                }
            }
            return true;
        }

        int length() {
            run(parameters[2]);
            return Arrays.stream(freeAt).max().getAsInt();
        }

        int start(int s, int i) {
            needStatement(s);
            if (i < 0 || i >= n()) {
                throw new IndexOutOfBoundsException();
            }
            run(parameters[2]);
            return starts[i][s];
        }

        int processor(int i) {
            if (i < 0 || i >= n()) {
                throw new IndexOutOfBoundsException();
            }
            run(parameters[2]);
            return assigned[i];
        }

        int total(int p, int what) {
            if (p < 0 || p >= parameters[2]) {
                throw new IndexOutOfBoundsException();
            }
            need(what >= 0 && what <= 3);
            run(parameters[2]);
            int iterations = (int) Arrays.stream(assigned).filter(a -> a == p).count();
            int busy = iterations * count(4);
            // All the time up to the end of its last statement is either work or stall.
            return new int[] {iterations, busy, freeAt[p] - busy, freeAt[p]}[what];
        }

        int fill() {
            run(parameters[2]);
            int latest = 0;
            for (int p = 0; p < parameters[2]; p++) {
                for (int i = 0; i < n() && !body.isEmpty(); i++) {
                    if (assigned[i] == p) {
                        latest = Math.max(latest, starts[i][body.get(0)]);
                        break;
                    }
                }
            }
            return latest;
        }

        int drain() {
            run(parameters[2]);
            return length() - Arrays.stream(assigned).map(p -> freeAt[p]).min().getAsInt();
        }

        int speedUp(int part) {
            need(part == 0 || part == 1);
            if (costs.isEmpty()) {
                throw new IllegalStateException();
            }
            int[] parts = {count(4) * n(), length()};
            for (int divisor = 2; divisor <= parts[0]; divisor++) {
                while (parts[0] % divisor == 0 && parts[1] % divisor == 0) {
                    parts[0] /= divisor;
                    parts[1] /= divisor;
                }
            }
            return parts[part];
        }

        int bestProcessors() {
            int[] lengths = new int[7];
            for (int p = 1; p <= 6; p++) {
                run(p);
                lengths[p] = Arrays.stream(freeAt).max().getAsInt();
            }
            int least = Arrays.stream(lengths, 1, 7).min().getAsInt();
            int best = 1;
            while (lengths[best] != least) {
                best++;
            }
            return best;
        }

        int signals() {
            int signals = 0;
            for (Dependence d : dependences) {
                for (int i = 0; i < n() && d.kept && d.distance > 0; i++) {
                    signals += i + d.distance < n() ? 1 : 0;
                }
            }
            return signals;
        }

        int violated() {
            run(parameters[2]);
            for (Dependence d : dependences) {
                int lag = d.distance == 0 ? lag(d) - parameters[1] : lag(d);
                for (int i = d.distance; i < n(); i++) {
                    if (starts[i][d.target] - starts[i - d.distance][d.source] < lag) {
                        return dependences.indexOf(d);
                    }
                }
            }
            return -1;
        }

        int save() {
            snapshot = new Model();
            snapshot.take(this);
            return dependences.size();
        }

        int restore() {
            if (snapshot == null) {
                throw new IllegalStateException();
            }
            take(snapshot);
            return dependences.size();
        }

        int count(int what) {
            need(what >= 0 && what <= 4 || what >= 10 && what <= 13);
            if (what >= 10) {
                return parameters[what - 10];
            }
            int kept = (int) dependences.stream().filter(d -> d.kept && d.distance > 0).count();
            int sum = costs.stream().mapToInt(cost -> cost).sum();
            return new int[] {costs.size(), dependences.size(), kept, buffer.length(), sum}[what];
        }
    }
}
