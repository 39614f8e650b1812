import java.io.IOException;
import java.lang.reflect.Constructor;
import java.lang.reflect.Field;
import java.lang.reflect.Method;
import java.lang.reflect.Modifier;
import java.nio.file.Files;
import java.nio.file.Path;
import java.util.ArrayList;
import java.util.Collections;
import java.util.HashSet;
import java.util.List;
import java.util.Map;
import java.util.Set;
import java.util.TreeMap;
import java.util.regex.Matcher;
import java.util.regex.Pattern;

/** The face that DOC.md lists, and those rules of LANGUAGE.md that a program can look at. */
public final class RulesTest {
    private static final String[] FACE = {
        "int blockers(int)", "int bestRow(int)", "int boat(int,int)", "int clearText()",
        "int come(int,int,int,int)", "int count(int)", "int cradle(int,int)", "int goAway(int)",
        "int keep()", "int launch(int)", "int launchDay(int)", "int launchReason(int)",
        "int lift(int,int)", "int liftReason(int,int)", "int mast(int,boolean)", "int move(int,int)",
        "int pass(int)", "int perform()", "int restore()", "int row(int,int)", "int set(int,int)",
        "int setCradles(int,int)", "int setRow(int,int)", "int stands(int,int)", "int stopped(int)",
        "int tide(int)", "int type(char)", "int undo()", "int work(int,int)",
    };
    private static final String[] CONSTANTS = {
        "UNKNOWN", "BAD_VALUE", "FULL", "NOT_POSSIBLE", "NONE", "REFUSED",
    };
    private static final String[] RULED_OUT = {
        "throw", "throws", "try", "catch", "synchronized", "assert", "import", "package", "float",
        "double", "->", "::", "Random", "currentTimeMillis", "nanoTime", "Thread", "equals(",
        "hashCode", "toString", "Exception", "Error", "Object", "protected", "volatile", "transient",
    };
    private static final Set<String> LIBRARY = Set.of("System.arraycopy", "Math.max", "Math.abs");

    private static final Check check = new Check("RulesTest");

    public static void main(String[] args) throws IOException {
        face();
        faceOfTheDocument();
        classesInside();
        words();
        depthOfCalls();
        check.end();
    }

    private static void face() {
        Class<?> yard = WinterYard.class;
        check.holds("public and final", yard.getModifiers() == (Modifier.PUBLIC | Modifier.FINAL));
        List<String> got = new ArrayList<>();
        for (Method method : yard.getDeclaredMethods()) {
            if (!Modifier.isPrivate(method.getModifiers()) && !method.isSynthetic()) {
                check.due(method.getName() + "'s modifiers", method.getModifiers(), Modifier.PUBLIC);
                got.add(described(method));
            }
        }
        List<String> want = new ArrayList<>(List.of(FACE));
        Collections.sort(want);
        Collections.sort(got);
        check.holds("the methods are " + want + ", not " + got, got.equals(want));
        Constructor<?>[] constructors = yard.getDeclaredConstructors();
        check.due("constructors", constructors.length, 1);
        check.due("its parameters", constructors[0].getParameterCount(), 0);
        check.due("its modifiers", constructors[0].getModifiers(), Modifier.PUBLIC);
        fields(yard);
    }

    private static String described(Method method) {
        StringBuilder text = new StringBuilder();
        for (Class<?> type : method.getParameterTypes()) {
            text.append(text.length() == 0 ? "" : ",").append(type.getName());
        }
        return method.getReturnType().getName() + " " + method.getName() + "(" + text + ")";
    }

    private static void fields(Class<?> yard) {
        Set<String> got = new HashSet<>();
        for (Field field : yard.getDeclaredFields()) {
            if (!Modifier.isPrivate(field.getModifiers())) {
                int modifiers = Modifier.PUBLIC | Modifier.STATIC | Modifier.FINAL;
                check.due(field.getName() + "'s modifiers", field.getModifiers(), modifiers);
                got.add(field.getName());
            }
        }
        check.holds("the constants are as listed, not " + got, got.equals(new HashSet<>(List.of(CONSTANTS))));
    }

    /** Each line of the document's face stands in the program, in its order, with its names. */
    private static void faceOfTheDocument() throws IOException {
        String document = Files.readString(Path.of("../shared/DOC.md"));
        String source = Files.readString(Path.of("src/main/java/WinterYard.java"));
        int start = document.indexOf("public final class WinterYard {");
        int end = document.indexOf("\n}\n", start);
        check.holds("the document has a face", start >= 0 && end > start);
        int at = 0;
        int lines = 0;
        for (String line : document.substring(Math.max(0, start), Math.max(0, end)).split("\n")) {
            String due = line.contains("(") ? line.replace(";", " {") : line;
            at = source.indexOf("\n" + due + "\n", Math.max(0, at - 1)) + 1;
            check.holds("the program has the line \"" + due + "\"", at > 0);
            at += due.length();
            lines++;
        }
        check.due("lines of the face", lines, 1 + CONSTANTS.length + 1 + FACE.length);
    }

    private static void classesInside() {
        Class<?>[] inside = WinterYard.class.getDeclaredClasses();
        check.holds("at most 12 classes", inside.length < 12);
        Set<String> names = new HashSet<>();
        for (Method method : WinterYard.class.getDeclaredMethods()) {
            if (Modifier.isPublic(method.getModifiers())) {
                names.add(method.getName());
            }
        }
        for (Class<?> type : inside) {
            int modifiers = type.getModifiers();
            check.holds(type + " is static", Modifier.isStatic(modifiers));
            check.holds(type + " is not public", !Modifier.isPublic(modifiers) && !Modifier.isProtected(modifiers));
            for (Method method : type.getDeclaredMethods()) {
                check.holds(method + " has a name of its own", !names.contains(method.getName()));
                check.holds(method + " has 7 parameters at most", method.getParameterCount() <= 7);
            }
            int own = 0;
            for (Field field : type.getDeclaredFields()) {
                boolean isStatic = Modifier.isStatic(field.getModifiers());
                check.holds(field + " is final if static", !isStatic || Modifier.isFinal(field.getModifiers()));
                own += isStatic ? 0 : 1;
            }
            check.holds(type + " has 20 fields at most", own <= 20);
        }
    }

    private static void words() throws IOException {
        String source = Files.readString(Path.of("src/main/java/WinterYard.java"));
        check.holds("signs are 1 to 127", source.chars().allMatch(c -> c > 0 && c < 128));
        String code = source.replaceAll("(?s)/\\*.*?\\*/", "").replaceAll("//[^\n]*", "");
        for (String word : RULED_OUT) {
            String edge = Character.isLetter(word.charAt(0)) ? "\\b" : "";
            Matcher matcher = Pattern.compile(edge + Pattern.quote(word)).matcher(code);
            check.holds("no " + word, !matcher.find());
        }
        Matcher library = Pattern.compile("\\b(?:System|Math|Integer|Long|Arrays|List|String)\\.\\w+").matcher(code);
        while (library.find()) {
            check.holds(library.group() + " is of the library", LIBRARY.contains(library.group()));
        }
        check.holds("no method is longer than 60 lines", longestPiece(source) <= 60);
    }

    private static int longestPiece(String source) {
        int longest = 0;
        int length = 0;
        for (String line : source.split("\n")) {
            length++;
            if (line.matches(" {4}(?: {4})?\\}")) {
                longest = Math.max(longest, length);
            }
            if (line.isBlank() || line.matches(" {4}(?: {4})?\\}")) {
                length = 0;
            }
        }
        return longest;
    }

    /** How deep calls go, from the text: a method's name stands for all that bear it. */
    private static void depthOfCalls() throws IOException {
        String source = Files.readString(Path.of("src/main/java/WinterYard.java"));
        Pattern method = Pattern.compile(
            "(?ms)^( {4}| {8})(?:(?:public|private|static|final) )*\\w+ (\\w+)\\([^)]*\\) \\{\\n(.*?)^\\1\\}");
        Map<String, String> bodies = new TreeMap<>();
        Matcher matcher = method.matcher(source);
        while (matcher.find()) {
            bodies.merge(matcher.group(2), matcher.group(3), String::concat);
        }
        check.holds("more than 80 methods are found: " + bodies.size(), bodies.size() > 80);
        for (String name : bodies.keySet()) {
            int depth = depth(name, bodies, 1);
            check.holds(name + " goes at most 8 deep: " + depth, depth <= 8);
        }
    }

    private static int depth(String name, Map<String, String> bodies, int level) {
        int deepest = level;
        Matcher call = Pattern.compile("\\b(\\w+)\\(").matcher(bodies.get(name));
        while (call.find() && level < 20) {
            if (bodies.containsKey(call.group(1))) {
                deepest = Math.max(deepest, depth(call.group(1), bodies, level + 1));
            }
        }
        return deepest;
    }
}
