import java.io.IOException;
import java.lang.reflect.InvocationTargetException;
import java.lang.reflect.Method;
import java.nio.file.Files;
import java.nio.file.Path;
import java.util.Arrays;
import java.util.Set;
import java.util.TreeSet;

/** Counts the answers that are not due, and packs texts for append. */
final class Checks {
    /** A call of the face. */
    interface Call {
        long answer();
    }

    private static final Path DOCUMENT = Path.of("../shared/DOC.md");

    private int made = 0;
    private int wrong = 0;
    // The sentence whose checks are being made; none yet if it is empty.
    private String sentence = "";
    private int madeBefore = 0;
    private final Set<Integer> promises = new TreeSet<>();
    private final Set<String> sentences = new TreeSet<>();

    /** The checks from here on are those of one sentence of the document, as the promise that is named answers it. */
    void sentence(int promise, String quote) {
        endSentence();
        sentence = "promise " + promise + ", '" + quote + "': ";
        promises.add(promise);
        if (!sentences.add(sentence)) {
            fault("has two tests");
        }
        if (!plain(document()).contains(plain(quote))) {
            fault("does not stand in the document");
        }
    }

    private void endSentence() {
        if (!sentence.isEmpty() && made == madeBefore) {
            fault("has no check");
        }
        madeBefore = made;
    }

    private void fault(String what) {
        wrong++;
        System.out.println(sentence + what);
    }

    private static String document() {
        try {
            return Files.readString(DOCUMENT);
        } catch (IOException e) {
            throw new IllegalStateException(DOCUMENT + " can't be read", e);
        }
    }

    private static String plain(String text) {
        return text.replaceAll("\\s+", " ");
    }

    void due(String what, long got, long want) {
        due(what, Long.toString(got), Long.toString(want));
    }

    void due(String what, boolean got, boolean want) {
        due(what, Boolean.toString(got), Boolean.toString(want));
    }

    void due(String what, String got, String want) {
        made++;
        if (!got.equals(want)) {
            fault(what + " answered " + got + ", due is " + want);
        }
    }

    /** The very class is due: an exception of the machine's below it would be a fault. */
    void dueThrow(String what, Class<? extends RuntimeException> want, Call call) {
        due(what, outcome(call), "throws." + want.getSimpleName());
    }

    static String outcome(Call call) {
        try {
            return Long.toString(call.answer());
        } catch (RuntimeException e) {
            return "throws." + e.getClass().getSimpleName();
        }
    }

    /** What a method that takes only numbers answers, found by its name. */
    static String answer(Object object, String name, int[] arguments) throws ReflectiveOperationException {
        Class<?>[] types = new Class<?>[arguments.length];
        Arrays.fill(types, int.class);
        Method method = object.getClass().getDeclaredMethod(name, types);
        try {
            return String.valueOf(method.invoke(object, Arrays.stream(arguments).boxed().toArray()));
        } catch (InvocationTargetException e) {
            return "throws." + e.getCause().getClass().getSimpleName();
        }
    }

    /** Up to four characters from a place of a text on, packed for append. */
    static int packed(String text, int from) {
        int packed = 0;
        for (int i = from; i < from + 4; i++) {
            packed = packed << 8 | (i < text.length() ? text.charAt(i) : 0);
        }
        return packed;
    }

    static void write(DoacrossScheduler scheduler, String text) {
        for (int from = 0; from < text.length(); from += 4) {
            scheduler.append(packed(text, from));
        }
    }

    static void run(DoacrossScheduler scheduler, String text) {
        write(scheduler, text);
        scheduler.execute();
    }

    /** A new scheduler that has executed the texts, each in a buffer of its own. */
    static DoacrossScheduler made(String... texts) {
        DoacrossScheduler scheduler = new DoacrossScheduler();
        for (String text : texts) {
            run(scheduler, text);
        }
        return scheduler;
    }

    /** Each of these promises must have had a sentence. */
    void each(int first, int last) {
        for (int promise = first; promise <= last; promise++) {
            if (!promises.contains(promise)) {
                fault("promise " + promise + " has no sentence");
            }
        }
    }

    void end() {
        endSentence();
        String told = sentences.isEmpty() ? "" : " on " + sentences.size() + " sentences";
        System.out.println(made + " answers looked at" + told + ", " + wrong + " not as due");
        if (wrong != 0 || made == 0) {
            System.exit(1);
        }
    }
}
