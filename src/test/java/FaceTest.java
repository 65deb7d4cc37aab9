import java.io.IOException;
import java.lang.reflect.Constructor;
import java.lang.reflect.Field;
import java.lang.reflect.Member;
import java.lang.reflect.Method;
import java.lang.reflect.Modifier;
import java.nio.file.Files;
import java.nio.file.Path;
import java.util.ArrayList;
import java.util.List;
import java.util.Map;
import java.util.Set;
import java.util.TreeMap;
import java.util.TreeSet;
import java.util.regex.Matcher;
import java.util.regex.Pattern;

/** The public face of the document, and the rules of LANGUAGE.md that can be asked by a program. */
public final class FaceTest {
    private static final Due DUE = new Due("FaceTest");
    private static final Path SOURCE = Path.of("src/main/java/MastField.java");
    private static final List<String> METHODS = List.of(
        "boolean map(int,int)", "boolean shade(int,int)", "int mast(int,int,int,int)", "boolean reach(int,int)",
        "boolean wake(int,boolean)", "int field(int,int)", "int feed(int,int,int,int,int)", "int rules(int)",
        "boolean neighbour(int,int,boolean)", "int caller(int)", "boolean move(int,int)", "int call(int)",
        "boolean hang(int)", "int tick()", "int look(int,int)", "int about(int,int)", "int reports(int,int)",
        "int covered(int)", "boolean spot(int)", "int sleep()", "int best(int)", "int loss(int,int,int)",
        "int count(int)");

    public static void main(String[] args) throws IOException {
        face();
        names();
        classes();
        words();
        lengths();
        depth();
        DUE.end();
    }

    private static void face() {
        Set<String> due = new TreeSet<>(METHODS);
        Set<String> got = new TreeSet<>();
        for (Method it : MastField.class.getDeclaredMethods()) {
            if (!Modifier.isPrivate(it.getModifiers())) {
                got.add(told(it));
            }
        }
        for (Constructor<?> it : MastField.class.getDeclaredConstructors()) {
            DUE.yes("a public constructor", Modifier.isPublic(it.getModifiers()) && it.getParameterCount() == 0);
        }
        for (Field it : MastField.class.getDeclaredFields()) {
            DUE.yes("private but for NONE: " + it.getName(), it.getName().equals("NONE") || isPrivate(it));
        }
        DUE.is("the constant NONE", MastField.NONE, -1);
        DUE.yes("public and final", (MastField.class.getModifiers() & (Modifier.PUBLIC | Modifier.FINAL)) == 17);
        if (!due.equals(got)) {
            DUE.wrong("the face is " + got + ", due is " + due);
        }
    }

    private static boolean isPrivate(Member it) {
        return Modifier.isPrivate(it.getModifiers());
    }

    private static String told(Method it) {
        StringBuilder text = new StringBuilder();
        for (Class<?> type : it.getParameterTypes()) {
            text.append(text.length() == 0 ? "" : ",").append(type.getSimpleName());
        }
        return it.getReturnType().getSimpleName() + " " + it.getName() + "(" + text + ")";
    }

    /** No private method bears the name of a public one, in the classes inside neither. */
    private static void names() {
        Set<String> open = new TreeSet<>();
        for (String it : METHODS) {
            open.add(it.substring(it.indexOf(' ') + 1, it.indexOf('(')));
        }
        for (Class<?> type : allClasses()) {
            for (Method it : type.getDeclaredMethods()) {
                DUE.no("a private method named " + it.getName(), isPrivate(it) && open.contains(it.getName()));
                DUE.yes("at most seven parameters: " + it.getName(), it.getParameterCount() <= 7);
            }
        }
    }

    private static List<Class<?>> allClasses() {
        List<Class<?>> all = new ArrayList<>(List.of(MastField.class.getDeclaredClasses()));
        all.add(MastField.class);
        return all;
    }

    private static void classes() {
        DUE.yes("at most twelve classes", allClasses().size() <= 12);
        for (Class<?> type : allClasses()) {
            int fields = 0;
            for (Field it : type.getDeclaredFields()) {
                boolean isStatic = Modifier.isStatic(it.getModifiers());
                DUE.yes("a static field is final: " + it.getName(), !isStatic || Modifier.isFinal(it.getModifiers()));
                fields += isStatic ? 0 : 1;
            }
            DUE.yes("at most twenty fields: " + type.getName(), fields <= 20);
            DUE.yes("static inside: " + type.getName(), type == MastField.class || Modifier.isStatic(type.getModifiers()));
        }
    }

    /** The source without comments, character and text constants. */
    private static String code() throws IOException {
        return Files.readString(SOURCE).replaceAll("(?s)/\\*.*?\\*/", "").replaceAll("//[^\n]*", "")
            .replaceAll("\"[^\"\n]*\"", "\"\"").replaceAll("'[^'\n]*'", "' '");
    }

    private static void words() throws IOException {
        String code = code();
        String[] forbidden = {"\\bthrows?\\b", "\\btry\\b", "\\bcatch\\b", "\\bsynchronized\\b", "\\bassert\\b", "->", "::",
            "\\bpackage\\b", "\\bprotected\\b", "Exact\\b", "\\bstatic\\s*\\{", "\\bnative\\b", "\\bvar\\b", "\\bObject\\b"};
        for (String it : forbidden) {
            DUE.no("not in the language: " + it, Pattern.compile(it).matcher(code).find());
        }
        Matcher imports = Pattern.compile("import ([^;]*);").matcher(code);
        while (imports.find()) {
            DUE.yes("import " + imports.group(1), Set.of("java.util.Arrays", "java.util.ArrayList", "java.util.List")
                .contains(imports.group(1)));
        }
        Matcher library = Pattern.compile("\\b(Math|Integer|Arrays|System|LETTERS)\\.(\\w+)").matcher(code);
        Set<String> known = Set.of("Math.max", "Math.min", "Math.abs", "Integer.bitCount", "Arrays.fill",
            "System.arraycopy", "LETTERS.charAt");
        while (library.find()) {
            DUE.yes("of the library: " + library.group(), known.contains(library.group()));
        }
        // What is kept is made once: no call makes anything, so that a run stays in its room.
        Matcher made = Pattern.compile("(?m)^.*\\bnew\\b.*$").matcher(code);
        while (made.find()) {
            String line = made.group().trim();
            DUE.yes("made in a constructor: " + line, line.startsWith("private final ")
                || line.equals("masts[m] = new Mast();") || line.equals("callers[k] = new Caller();"));
        }
    }

    private static void lengths() throws IOException {
        for (String line : Files.readAllLines(SOURCE)) {
            DUE.yes("a line of at most 120: " + line, line.length() <= 120);
        }
        bodies().forEach((name, body) -> DUE.yes("at most sixty lines: " + name, body.split("\n").length <= 60));
    }

    /** The methods by name: from the head to the brace that closes it at the same depth. */
    private static Map<String, String> bodies() throws IOException {
        Map<String, String> bodies = new TreeMap<>();
        Matcher methods = Pattern.compile("(?ms)^( {4}| {8})(?:public|private)[^=;(]*?(\\w+)\\([^;{]*\\{\n(.*?)^\\1\\}")
            .matcher(code());
        while (methods.find()) {
            DUE.yes("one method of a name: " + methods.group(2), bodies.put(methods.group(2), methods.group(3)) == null);
        }
        DUE.yes("the methods of the face are found", bodies.size() > METHODS.size());
        return bodies;
    }

    /** Calls go at most eight deep, the library's counted, and none comes back to itself. */
    private static void depth() throws IOException {
        Map<String, String> bodies = bodies();
        for (String name : bodies.keySet()) {
            int deep = depthOf(name, bodies, 1);
            DUE.yes(name + " goes " + deep + " deep", deep <= 8);
        }
    }

    private static int depthOf(String name, Map<String, String> bodies, int level) {
        int deepest = level;
        if (level > 20 || !bodies.containsKey(name)) {
            return level;
        }
        Matcher calls = Pattern.compile("\\b(\\w+)\\(").matcher(bodies.get(name));
        while (calls.find()) {
            if (!Set.of("if", "for", "while", "switch", "return").contains(calls.group(1))) {
                deepest = Math.max(deepest, depthOf(calls.group(1), bodies, level + 1));
            }
        }
        return deepest;
    }
}
