/** Counts the answers that are not due, and packs texts for append. */
final class Checks {
    /** A call of the face. */
    interface Call {
        long answer();
    }

    private int made = 0;
    private int wrong = 0;

    void due(String what, long got, long want) {
        due(what, Long.toString(got), Long.toString(want));
    }

    void due(String what, boolean got, boolean want) {
        due(what, Boolean.toString(got), Boolean.toString(want));
    }

    void due(String what, String got, String want) {
        made++;
        if (!got.equals(want)) {
            wrong++;
            System.out.println(what + " answered " + got + ", due is " + want);
        }
    }

    /** The very class is due: an exception of the machine's below it would be a fault. */
    void dueThrow(String what, Class<? extends RuntimeException> want, Call call) {
        due(what, outcome(call), "throws." + want.getSimpleName());
    }

    static String outcome(Call call) {
        try {
            return Long.toString(call.answer());
        } catch (RuntimeException e) {
            return "throws." + e.getClass().getSimpleName();
        }
    }

    /** Up to four characters from a place of a text on, packed for append. */
    static int packed(String text, int from) {
        int packed = 0;
        for (int i = from; i < from + 4; i++) {
            packed = packed << 8 | (i < text.length() ? text.charAt(i) : 0);
        }
        return packed;
    }

    static void write(DoacrossScheduler scheduler, String text) {
        for (int from = 0; from < text.length(); from += 4) {
            scheduler.append(packed(text, from));
        }
    }

    /** A new scheduler that has executed the texts, each in a buffer of its own. */
    static DoacrossScheduler made(String... texts) {
        DoacrossScheduler scheduler = new DoacrossScheduler();
        for (String text : texts) {
            write(scheduler, text);
            scheduler.execute();
        }
        return scheduler;
    }

    void end() {
        System.out.println(made + " answers looked at, " + wrong + " not as due");
        if (wrong != 0 || made == 0) {
            System.exit(1);
        }
    }
}
