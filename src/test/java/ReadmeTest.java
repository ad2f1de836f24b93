import java.io.File;
import java.lang.reflect.Method;
import java.lang.reflect.Modifier;
import java.net.URL;
import java.net.URLClassLoader;
import java.nio.file.Files;
import java.nio.file.Path;
import java.util.ArrayList;
import java.util.Comparator;
import java.util.List;
import java.util.Set;
import java.util.TreeSet;
import java.util.regex.Matcher;
import java.util.regex.Pattern;
import java.util.stream.Stream;
import javax.tools.ToolProvider;

/** What README.md says is so: its examples answer what stands behind them, and it names every call and test. */
public final class ReadmeTest {
    private static final Pattern ASKED = Pattern.compile("((?:x\\.|tell\\().*\\)); +// (-?[0-9]+|true|false|[A-Z]\\w+Exception)\\b.*");
    private static final Pattern BLOCK = Pattern.compile("```(\\w+)\n(.*?)```", Pattern.DOTALL);

    private final String page;
    private final StringBuilder members = new StringBuilder();
    private final StringBuilder examples = new StringBuilder();
    private final List<String> calls = new ArrayList<>();
    private final List<String> wanted = new ArrayList<>();
    private String commands = "";

    private ReadmeTest(String page) {
        this.page = page;
    }

    private void cut() {
        Matcher block = BLOCK.matcher(page);
        while (block.find()) {
            if (block.group(1).equals("sh")) {
                commands += block.group(2);
            } else if (block.group(2).startsWith("static ")) {
                members.append(block.group(2));
            } else {
                example(block.group(2));
            }
        }
    }

    private void example(String code) {
        examples.append("{\n");
        for (String line : code.split("\n")) {
            Matcher asked = ASKED.matcher(line);
            if (!asked.matches()) {
                Check.due("a line without an answer: " + line, line.equals("SandHours x = new SandHours();"), true);
                examples.append(line).append('\n');
                continue;
            }
            calls.add(asked.group(1));
            wanted.add(asked.group(2));
            examples.append("try { said.add(String.valueOf(").append(asked.group(1))
                    .append(")); } catch (RuntimeException e) { said.add(e.getClass().getSimpleName()); }\n");
        }
        examples.append("}\n");
    }

    private List<?> answers(Path folder) throws Exception {
        Path file = folder.resolve("Examples.java");
        Files.writeString(file, "public final class Examples {\n" + members
                + "public static java.util.List<String> said() {\njava.util.List<String> said = new java.util.ArrayList<>();\n"
                + examples + "return said;\n}\n}\n");
        String classes = System.getProperty("java.class.path");
        int failed = ToolProvider.getSystemJavaCompiler().run(null, null, null, "-cp", classes, "-d", folder.toString(), file.toString());
        Check.due("the examples compile", failed, 0);
        if (failed != 0) {
            return new ArrayList<String>();
        }
        try (URLClassLoader loader = new URLClassLoader(new URL[] {folder.toUri().toURL()})) {
            return (List<?>) loader.loadClass("Examples").getMethod("said").invoke(null);
        }
    }

    private void examples() throws Exception {
        Path folder = Files.createTempDirectory("readme");
        try {
            List<?> said = answers(folder);
            Check.due("answers", said.size(), wanted.size());
            for (int k = 0; k < said.size() && k < wanted.size(); k++) {
                Check.due(calls.get(k) + " answered " + said.get(k) + ", README says " + wanted.get(k),
                        wanted.get(k).equals(said.get(k)), true);
            }
        } finally {
            try (Stream<Path> all = Files.walk(folder)) {
                all.sorted(Comparator.reverseOrder()).map(Path::toFile).forEach(File::delete);
            }
        }
    }

    private void namesEveryCall() {
        Set<String> face = new TreeSet<>();
        for (Method m : SandHours.class.getDeclaredMethods()) {
            if (Modifier.isPublic(m.getModifiers())) {
                face.add(m.getName());
            }
        }
        Set<String> told = new TreeSet<>();
        String rows = page.substring(page.indexOf("| calls |"), page.indexOf("## Tests"));
        Matcher name = Pattern.compile("`(\\w+)`").matcher(rows);
        while (name.find()) {
            Check.due(name.group(1) + " stands there twice", told.add(name.group(1)), true);
        }
        Check.same("the calls that README names", told.toString(), face.toString());
    }

    private void namesEveryTest() {
        Set<String> told = new TreeSet<>();
        Matcher name = Pattern.compile("`(\\w+Test)`").matcher(page);
        while (name.find()) {
            told.add(name.group(1));
        }
        Set<String> there = new TreeSet<>();
        for (String file : new File("src/test/java").list()) {
            if (file.endsWith("Test.java")) {
                there.add(file.substring(0, file.length() - ".java".length()));
            }
        }
        Check.same("the tests that README names", told.toString(), there.toString());
    }

    private void namesWhatIsThere() {
        Matcher path = Pattern.compile("(?:\\.\\./shared|src|\\.ci)/[\\w./]*\\w").matcher(page);
        int found = 0;
        while (path.find()) {
            Check.due(path.group() + " is there", new File(path.group()).exists(), true);
            found++;
        }
        Check.due("paths", found > 5, true);
        Check.due("bash .ci/run is told", commands.startsWith("bash .ci/run\n"), true);
        Check.due(".ci/run can be run", new File(".ci/run").canExecute(), true);
    }

    public static void main(String[] args) throws Exception {
        ReadmeTest test = new ReadmeTest(Files.readString(Path.of("README.md")));
        test.cut();
        test.examples();
        test.namesEveryCall();
        test.namesEveryTest();
        test.namesWhatIsThere();
        Check.end();
    }
}
