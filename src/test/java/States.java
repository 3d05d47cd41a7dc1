/** Tells all that the calls of the face can tell of an object's state. */
final class States {
    private States() {
    }

    /**
     * What the object answers, then what it answers after its buffer has been executed and after its snapshot has been
     * restored: so the state is used up by it.
     */
    static String told(DoacrossScheduler x) {
        StringBuilder told = new StringBuilder();
        tell(x, told);
        told.append("\nexecuted ").append(Checks.outcome(x::execute)).append(": ");
        tell(x, told);
        told.append("\nrestored ").append(Checks.outcome(x::restore)).append(": ");
        tell(x, told);
        return told.toString();
    }

    // The numbers are asked once: an object answers 512 calls.
    private static void tell(DoacrossScheduler x, StringBuilder told) {
        int statements = x.count(0);
        int dependences = x.count(1);
        int iterations = x.count(10);
        told.append("error ").append(x.errorPosition()).append(", counts ").append(statements).append(' ');
        told.append(dependences).append(' ').append(iterations);
        for (int what : new int[] {2, 3, 4, 11, 12, 13}) {
            told.append(' ').append(x.count(what));
        }
        for (int s = 0; s < statements; s++) {
            told.append(", s").append(x.statement(s, 0)).append(' ').append(x.statement(s, 1)).append(' ');
            told.append(x.statement(s, 2));
            for (int i = 0; i < iterations; i++) {
                told.append(' ').append(x.start(s, i));
            }
        }
        for (int d = 0; d < dependences; d++) {
            told.append(", d");
            for (int what = 0; what < 6; what++) {
                told.append(x.dependence(d, what)).append(' ');
            }
        }
        for (int i = 0; i < iterations; i++) {
            told.append(' ').append(x.processor(i));
        }
        told.append(", measures ").append(x.delay()).append(' ').append(x.critical()).append(' ').append(x.length());
        told.append(' ').append(x.fill()).append(' ').append(x.drain()).append(' ').append(x.signals());
        told.append(' ').append(x.violated());
    }
}
