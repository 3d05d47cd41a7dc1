import java.lang.reflect.Constructor;
import java.lang.reflect.Field;
import java.lang.reflect.Method;
import java.lang.reflect.Modifier;
import java.nio.file.Files;
import java.nio.file.Path;
import java.util.ArrayList;
import java.util.Arrays;
import java.util.List;
import java.util.Set;
import java.util.TreeSet;
import java.util.regex.Matcher;
import java.util.regex.Pattern;

/** The public face is the document's, no more and no less, and the source keeps to rules of LANGUAGE.md. */
public final class FaceTest {
    /** The methods as the document shows them, each as its types, its name and its exceptions. */
    private static final Set<String> FACE = new TreeSet<>();
    /** What LANGUAGE.md leaves out and a search of the source can find. */
    private static final String[] LEFT_OUT = {"\\bimport\\b", "\\bpackage\\b", "->", "::", "\\btry\\b", "\\bcatch\\b",
        "\\bfinally\\b", "\\bsynchronized\\b", "\\bassert\\b", "\\binstanceof\\b", "\\bstatic\\s*\\{", "Exact\\b",
        "\\bextends\\b", "\\bprotected\\b", "[^\\x00-\\x7f]", "\\bSystem\\b", "@"};

    private static final Checks checks = new Checks();

    public static void main(String[] args) throws Exception {
        readFace(Files.readString(Path.of("../shared/DOC.md")));
        methods();
        members();
        names();
        source(Files.readString(Path.of("src/main/java/DoacrossScheduler.java")));
        checks.end();
    }

    private static void readFace(String document) {
        String shown = document.substring(document.indexOf("```java"), document.indexOf("## Description"));
        Matcher method = Pattern.compile("public (\\w+ \\w+)\\((.*?)\\)(| throws [^;]+);").matcher(shown);
        while (method.find()) {
            String types = method.group(2).replaceAll(" \\w+(?=,|$)", "");
            FACE.add(method.group(1) + "(" + types + ")" + method.group(3));
        }
        checks.due("the methods that the document shows", FACE.size(), 30);
        checks.due("one of them", FACE.contains("int setCost(int, int) throws IndexOutOfBoundsException, "
            + "IllegalArgumentException"), true);
    }

    private static String listed(Class<?>[] types) {
        return String.join(", ", Arrays.stream(types).map(Class::getSimpleName).toArray(String[]::new));
    }

    private static void methods() {
        Set<String> found = new TreeSet<>();
        for (Method method : DoacrossScheduler.class.getDeclaredMethods()) {
            if (!Modifier.isPrivate(method.getModifiers())) {
                String thrown = listed(method.getExceptionTypes());
                found.add(method.getReturnType().getSimpleName() + " " + method.getName() + "("
                    + listed(method.getParameterTypes()) + ")" + (thrown.isEmpty() ? "" : " throws " + thrown));
                checks.due("the modifiers of " + method.getName(), method.getModifiers(), Modifier.PUBLIC);
            }
        }
        checks.due("the methods", String.join("\n", found), String.join("\n", FACE));
    }

    private static void members() {
        Class<?> face = DoacrossScheduler.class;
        checks.due("the class", face.getModifiers(), Modifier.PUBLIC | Modifier.FINAL);
        checks.due("the constructors", face.getDeclaredConstructors().length, 1);
        for (Constructor<?> constructor : face.getDeclaredConstructors()) {
            checks.due("the constructor", constructor.getModifiers() + constructor.getParameterCount(), Modifier.PUBLIC);
        }
        List<Class<?>> all = new ArrayList<>(Arrays.asList(face.getDeclaredClasses()));
        checks.due("at most twelve classes", all.size() < 12, true);
        for (Class<?> inside : all) {
            checks.due(inside + " is static", Modifier.isStatic(inside.getModifiers()), true);
            checks.due(inside + " is not public", Modifier.isPublic(inside.getModifiers()), false);
        }
        all.add(face);
        for (Class<?> one : all) {
            int own = 0;
            for (Field field : one.getDeclaredFields()) {
                boolean isStatic = Modifier.isStatic(field.getModifiers());
                checks.due(field + " is private", Modifier.isPrivate(field.getModifiers()), true);
                checks.due(field + " is final if static", !isStatic || Modifier.isFinal(field.getModifiers()), true);
                own += isStatic ? 0 : 1;
            }
            checks.due("at most twenty fields in " + one, own <= 20, true);
        }
    }

    private static void names() {
        Set<String> face = new TreeSet<>();
        for (String signature : FACE) {
            face.add(signature.substring(signature.indexOf(' ') + 1, signature.indexOf('(')));
        }
        for (Class<?> inside : DoacrossScheduler.class.getDeclaredClasses()) {
            for (Method method : inside.getDeclaredMethods()) {
                checks.due(method + " bears a name of the face", face.contains(method.getName()), false);
            }
        }
    }

    private static void source(String source) {
        String code = source.replaceAll("(?s)/\\*.*?\\*/", "").replaceAll("//[^\n]*", "").replaceAll("\"[^\"]*\"", "\"\"");
        for (String pattern : LEFT_OUT) {
            Matcher matcher = Pattern.compile(pattern).matcher(code);
            checks.due("the source has " + pattern, matcher.find(), false);
        }
        for (String line : code.split("\n")) {
            // Calls make nothing but the exceptions that they throw; the rows are fields made by constructors.
            boolean makes = line.matches(".*\\bnew\\b.*") && !line.matches("\\s*throw new \\w+\\(\"\"\\);");
            boolean keeps = line.matches("\\s*\\w+ = new (\\w+\\(\\)|\\w+\\[[^\\]]+\\]);");
            checks.due("an object of its own: " + line.strip(), makes && !keeps, false);
        }
    }
}
