import java.io.File;
import java.io.IOException;
import java.nio.file.Files;
import java.nio.file.Path;
import java.util.ArrayList;
import java.util.List;
import java.util.Set;
import java.util.TreeSet;
import java.util.regex.Matcher;
import java.util.regex.Pattern;

/** What README.md says is so: its program, commands and rows are run, its tables have every call and every test. */
public final class ReadmeTest {
    private static final Due DUE = new Due("ReadmeTest");
    /** A row of an example: what is called, and the answer with which its comment begins. */
    private static final Pattern ROW = Pattern.compile("((?:x\\.(\\w+)|tell)\\(.*\\));\\s+// (true|false|NONE|-?\\d+)\\b.*");
    private static final Set<String> REFUSALS = Set.of("false", "NONE", "-1000");
    /** sleep is never refused, and tick only behind more calls than an object is used for. */
    private static final Set<String> WITHOUT_REFUSAL = Set.of("sleep", "tick");

    private final String page;
    private final Path folder;

    private ReadmeTest() throws IOException {
        page = Files.readString(Path.of("README.md"));
        folder = Files.createTempDirectory("readme");
    }

    public static void main(String[] args) throws IOException, InterruptedException {
        ReadmeTest it = new ReadmeTest();
        it.commands();
        it.rows();
        it.everyCall();
        it.everyTest();
        it.files();
        it.sweep();
        DUE.end();
    }

    /** The fenced blocks of a language, in their order. */
    private List<String> blocks(String language) {
        List<String> found = new ArrayList<>();
        Matcher fences = Pattern.compile("(?ms)^```" + language + "\n(.*?)^```$").matcher(page);
        while (fences.find()) {
            found.add(fences.group(1));
        }
        return found;
    }

    /** The commands as they stand, but in a folder of this test's own; the first print what the page shows. */
    private void commands() throws IOException, InterruptedException {
        Files.writeString(folder.resolve("Net.java"), blocks("java").get(0));
        List<String> shell = blocks("sh");
        for (int i = 0; i < shell.size(); i++) {
            Path printed = folder.resolve("printed" + i);
            int code = run(printed, "bash", "-ec", shell.get(i).replace("/tmp/", folder + "/"));
            DUE.is("the code by which these end:\n" + shell.get(i), code, 0);
            if (i == 0 && !Files.readString(printed).equals(blocks("text").get(0))) {
                DUE.wrong("the first net prints\n" + Files.readString(printed));
            }
        }
        DUE.is("blocks of commands", shell.size(), 2);
    }

    private static int run(Path printed, String... command) throws IOException, InterruptedException {
        ProcessBuilder builder = new ProcessBuilder(command).redirectErrorStream(true).redirectOutput(printed.toFile());
        return builder.start().waitFor();
    }

    /** The examples become a program that asks every row, beside the page's own program, whose tell they use. */
    private void rows() throws IOException, InterruptedException {
        StringBuilder program = new StringBuilder("final class Rows {\n");
        program.append("static int tell(MastField x, String text) { return Net.tell(x, text); }\n");
        program.append("public static void main(String[] args) {\nDue due = new Due(\"rows\");\n");
        List<String> java = blocks("java");
        for (String block : java.subList(1, java.size())) {
            program.append("{\n");
            block.lines().forEach(line -> program.append(asked(line)).append('\n'));
            program.append("}\n");
        }
        program.append("due.end();\n}\n}\n");
        Files.writeString(folder.resolve("Rows.java"), program);
        String path = System.getProperty("java.class.path") + File.pathSeparator + folder;
        Path printed = folder.resolve("printed");
        String files = folder + "/Rows.java " + folder + "/Net.java";
        String command = "javac --release 17 -cp " + path + " -d " + folder + " " + files + "; java -cp " + path + " Rows";
        if (run(printed, "bash", "-ec", command) != 0) {
            DUE.wrong("rows of README.md:\n" + Files.readString(printed));
        }
        DUE.is("examples", java.size() - 1, 5);
    }

    private static String asked(String line) {
        Matcher row = ROW.matcher(line);
        if (row.matches()) {
            String answer = row.group(3).equals("NONE") ? "MastField.NONE" : row.group(3);
            String call = row.group(1);
            String name = "\"" + call.replace("\"", "'") + "\"";
            boolean isTruth = answer.equals("true") || answer.equals("false");
            return isTruth ? "due.yes(" + name + ", " + call + " == " + answer + ");"
                : "due.is(" + name + ", " + call + ", " + answer + ");";
        }
        DUE.yes("a row has an answer: " + line, line.equals("MastField x = new MastField();"));
        return line;
    }

    /** Each call of the document's face has its line in a table, and rows in which it is answered and refused. */
    private void everyCall() throws IOException {
        Matcher face = Pattern.compile("(?m)^    public (?:\\w+ )?(\\w+)\\((.*)\\);$")
            .matcher(Files.readString(Path.of("../shared/DOC.md")));
        int found = 0;
        while (face.find()) {
            found++;
            String name = face.group(1);
            String head = "| `" + name + "(" + face.group(2).replaceAll("\\w+ (\\w+)", "$1") + ")` | ";
            DUE.is("lines of tables that begin with " + head, countOf(Pattern.quote(head)), 1);
            if (!name.equals("MastField")) {
                answeredAndRefused(name);
            }
        }
        DUE.is("the constructor and calls of the face", found, 24);
    }

    private void answeredAndRefused(String name) {
        int answered = 0;
        int refused = 0;
        for (String line : page.lines().toList()) {
            Matcher row = ROW.matcher(line);
            if (row.matches() && name.equals(row.group(2))) {
                boolean isRefusal = REFUSALS.contains(row.group(3));
                answered += isRefusal ? 0 : 1;
                refused += isRefusal ? 1 : 0;
            }
        }
        DUE.yes("a row in which " + name + " is answered", answered > 0);
        DUE.yes("a row in which " + name + " is refused", refused > 0 || WITHOUT_REFUSAL.contains(name));
    }

    private int countOf(String pattern) {
        return (int) Pattern.compile("(?m)^" + pattern).matcher(page).results().count();
    }

    /** The table of tests has each test of the project, and no other. */
    private void everyTest() {
        Set<String> told = new TreeSet<>();
        Matcher lines = Pattern.compile("(?m)^\\| (\\w+Test) \\| ").matcher(page);
        while (lines.find()) {
            told.add(lines.group(1));
        }
        Set<String> there = new TreeSet<>();
        String[] names = new File("src/test/java").list((where, name) -> name.endsWith("Test.java"));
        for (String name : names == null ? new String[0] : names) {
            there.add(name.replace(".java", ""));
        }
        if (!told.equals(there)) {
            DUE.wrong("the tests are " + there + ", README.md tells " + told);
        }
    }

    /** Files and classes that the page names are there. */
    private void files() {
        Matcher paths = Pattern.compile("(?:\\.\\./shared|src|\\.ci)/[\\w./]*\\w").matcher(page);
        while (paths.find()) {
            DUE.yes("there is " + paths.group(), new File(paths.group()).exists());
        }
        DUE.yes(".ci/run can be run", new File(".ci/run").canExecute());
        for (String helper : List.of("Due", "PlainNet", "Sentences", "Worlds")) {
            DUE.yes("README.md tells of " + helper, page.contains("`" + helper + "`"));
            DUE.yes("there is " + helper, new File("src/test/java/" + helper + ".java").exists());
        }
    }

    private void sweep() throws IOException {
        List<Path> made;
        try (var walk = Files.walk(folder)) {
            made = new ArrayList<>(walk.toList());
        }
        for (int i = made.size() - 1; i >= 0; i--) {
            Files.delete(made.get(i));
        }
    }
}
