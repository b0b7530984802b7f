import java.io.IOException;
import java.lang.reflect.Field;
import java.lang.reflect.Method;
import java.lang.reflect.Modifier;
import java.nio.file.Files;
import java.nio.file.Path;
import java.util.Arrays;
import java.util.List;
import java.util.Set;
import java.util.TreeSet;
import java.util.regex.Matcher;
import java.util.regex.Pattern;

/** The face of the class, and the rules of LANGUAGE.md that can be seen in the text or in the compiled class. */
public final class LanguageTest {
    private static final Due DUE = new Due("LanguageTest");
    private static final String[] FACE = {
        "addRosette(int, boolean, int, int)", "setStrain(int, int, int, int)", "setLeads(int, int)",
        "setOffset(int, int, int)", "setShunt(int, boolean)", "setSize(int)", "request(int, int, int)",
        "cancel(int)", "next()", "workOff()", "type(char)", "clearText()", "readJobs()", "undo()", "keep()",
        "restore()", "rosette(int, int)", "gauge(int, int, int)", "principal(int, int)", "pull(int, int)",
        "job(int, int)", "record(int, int)", "neighbour(int, boolean)", "count(int)"};
    private static final String[] NOT_ALLOWED = {
        "\\bthrows?\\b", "\\btry\\b", "\\bcatch\\b", "\\bsynchronized\\b", "\\bassert\\b", "->", "::",
        "\\bstatic\\s*\\{", "\\bprotected\\b", "\\bvolatile\\b", "\\bThread\\b", "\\bSystem\\.(?!arraycopy)",
        "Exact\\b", "\\bObject\\b", "\\bvar\\b", "\\bpackage\\b", "\\bimport\\b", "\\bhashCode\\b", "\\btoString\\b",
        "\\bequals\\b", "\\bwhile\\s*\\(true", "\\bfor\\s*\\(;"};
    private static final int MOST_LINES = 60;
    private static final int MOST_PARAMETERS = 7;
    private static final int MOST_CLASSES = 12;
    private static final int MOST_FIELDS = 20;

    public static void main(String[] args) throws IOException {
        String program = args.length > 0 ? args[0] : "src/main/java/RosetteGantry.java";
        List<String> lines = Files.readAllLines(Path.of(program));
        face();
        insideClasses();
        text(lines);
        methodLengths(lines);
        DUE.end();
    }

    private static String signature(Method method) {
        String parameters = Arrays.toString(method.getParameterTypes());
        return method.getName() + "(" + parameters.substring(1, parameters.length() - 1) + ")";
    }

    private static void face() {
        Class<?> c = RosetteGantry.class;
        DUE.holds("rule 1: public and final", Modifier.isPublic(c.getModifiers()) && Modifier.isFinal(c.getModifiers()));
        DUE.is("rule 1: constructors", c.getDeclaredConstructors().length, 1);
        DUE.is("rule 1: public constructors", c.getConstructors().length, 1);
        Set<String> told = new TreeSet<>();
        for (Method method : c.getDeclaredMethods()) {
            if (Modifier.isPublic(method.getModifiers())) {
                told.add(signature(method));
                DUE.holds("the face: int " + signature(method), method.getReturnType() == int.class);
            } else {
                DUE.holds("rule 1: private " + method, Modifier.isPrivate(method.getModifiers()));
            }
        }
        DUE.holds("the face: all methods and no other: " + told, told.equals(new TreeSet<>(Arrays.asList(FACE))));
        Set<String> constants = new TreeSet<>();
        for (Field field : c.getDeclaredFields()) {
            if (!Modifier.isPrivate(field.getModifiers())) {
                constants.add(field.getName());
                DUE.holds("the face: constant " + field, Modifier.isPublic(field.getModifiers()));
            }
        }
        DUE.holds("the face: the constants", constants.equals(Set.of("UNKNOWN", "BAD_VALUE", "REFUSED", "NONE")));
        fields(c);
    }

    private static void insideClasses() {
        Class<?>[] inside = RosetteGantry.class.getDeclaredClasses();
        DUE.holds("rule 11: classes", inside.length + 1 <= MOST_CLASSES);
        Set<String> publicNames = new TreeSet<>();
        for (String method : FACE) {
            publicNames.add(method.substring(0, method.indexOf('(')));
        }
        for (Class<?> c : inside) {
            int modifiers = c.getModifiers();
            DUE.holds("rule 1: " + c + " is static", Modifier.isStatic(modifiers));
            DUE.holds("rule 1: " + c + " is hidden", !Modifier.isPublic(modifiers) && !Modifier.isProtected(modifiers));
            DUE.is("rule 2: classes in " + c, c.getDeclaredClasses().length, 0);
            fields(c);
            methods(c, publicNames);
        }
        methods(RosetteGantry.class, publicNames);
    }

    private static void fields(Class<?> c) {
        int fields = 0;
        for (Field field : c.getDeclaredFields()) {
            int modifiers = field.getModifiers();
            DUE.holds("rule 5: final " + field, !Modifier.isStatic(modifiers) || Modifier.isFinal(modifiers));
            fields += Modifier.isStatic(modifiers) ? 0 : 1;
        }
        DUE.holds("rule 11: fields of " + c, fields <= MOST_FIELDS);
    }

    private static void methods(Class<?> c, Set<String> publicNames) {
        for (Method method : c.getDeclaredMethods()) {
            boolean ofTheFace = Modifier.isPublic(method.getModifiers());
            DUE.holds("rule 1: the name of " + method, ofTheFace || !publicNames.contains(method.getName()));
            DUE.holds("rule 11: parameters of " + method, method.getParameterCount() <= MOST_PARAMETERS);
            DUE.holds("rule 2: " + method, !method.isSynthetic());
        }
    }

    private static void text(List<String> lines) {
        StringBuilder code = new StringBuilder();
        for (String line : lines) {
            DUE.holds("rule 4: signs of " + line, line.chars().allMatch(sign -> sign >= 32 && sign < 127));
            code.append(line.replaceFirst("//.*", "")).append('\n');
        }
        String bare = code.toString().replaceAll("(?s)/\\*.*?\\*/", "");
        for (String word : NOT_ALLOWED) {
            Matcher found = Pattern.compile(word).matcher(bare);
            DUE.holds("no " + word, !found.find());
        }
    }

    private static void methodLengths(List<String> lines) {
        int begin = -1;
        String indent = "";
        for (int i = 0; i < lines.size(); i++) {
            String line = lines.get(i);
            boolean opens = line.matches(" +[A-Za-z].*\\) \\{") && line.matches("( {4}| {8})[A-Za-z].*")
                && !line.matches(" *(if|for|while|switch|else)\\b.*");
            if (opens) {
                begin = i;
                indent = line.substring(0, line.length() - line.stripLeading().length());
            } else if (begin >= 0 && line.equals(indent + "}")) {
                DUE.holds("rule 11: lines of " + lines.get(begin).strip(), i - begin + 1 <= MOST_LINES);
                begin = -1;
            }
        }
    }
}
