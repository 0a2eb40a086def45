import java.io.ByteArrayOutputStream;
import java.io.File;
import java.io.IOException;
import java.io.PrintStream;
import java.lang.reflect.Method;
import java.lang.reflect.Modifier;
import java.net.URL;
import java.net.URLClassLoader;
import java.nio.file.Files;
import java.nio.file.Path;
import java.util.ArrayList;
import java.util.Comparator;
import java.util.List;
import java.util.Set;
import java.util.TreeSet;
import java.util.regex.Matcher;
import java.util.regex.Pattern;
import java.util.stream.Collectors;
import java.util.stream.Stream;
import javax.tools.JavaCompiler;
import javax.tools.ToolProvider;

/** README.md: its example, run as it stands, answers what is told there; each method is told. */
public final class ReadmeTest {
    private static final Path README = Path.of("README.md");
    private static final String EXAMPLE = "Example";
    private static final int MAX_CALLS = 512;

    private static final Pattern CALL = Pattern.compile(
            " *System\\.out\\.println\\(court\\.((\\w+)\\(.*\\))\\); +// (true|false|-?\\d+)(?:: (.*))?");
    private static final Pattern TYPED = Pattern.compile("type\\(0x([0-9a-f]+), ([1-4])\\)");

    private static int wrong;

    /** A call of the example, with the answer that is told behind it, and what is said of that. */
    private record Call(int line, String text, String method, String told, String remark) {
    }

    public static void main(String[] args) throws Exception {
        List<String> readme = Files.readAllLines(README);
        int start = exampleStart(readme);
        List<String> example = new ArrayList<>();
        for (int i = start; i < readme.size() && !readme.get(i).equals("```"); i++) {
            example.add(readme.get(i));
        }
        List<Call> calls = callsOf(example, start);
        answersAreTold(calls, outputOf(example));
        typedTextsAreTold(calls);
        exampleUsesTheFace(calls);
        readmeTellsTheFace(String.join("\n", readme));
        System.out.println(calls.size() + " calls of README.md, " + wrong + " wrong");
        if (wrong != 0) {
            System.exit(1);
        }
    }

    /** Behind the first line of the one Java block. */
    private static int exampleStart(List<String> readme) {
        int start = readme.indexOf("```java") + 1;
        expect("README.md has an example in Java", start > 0);
        expect("README.md has one example in Java", readme.lastIndexOf("```java") + 1 == start);
        return start > 0 ? start : readme.size();
    }

    private static List<Call> callsOf(List<String> example, int start) {
        List<Call> calls = new ArrayList<>();
        for (int i = 0; i < example.size(); i++) {
            Matcher call = CALL.matcher(example.get(i));
            int line = start + i + 1;
            if (call.matches()) {
                calls.add(new Call(line, call.group(1), call.group(2), call.group(3), call.group(4)));
            } else {
                expect("line " + line + " tells the call's answer", !example.get(i).contains("court."));
            }
        }
        expect("the example has calls", !calls.isEmpty());
        expect("the example makes at most 512 calls", calls.size() <= MAX_CALLS);
        return calls;
    }

    private static void answersAreTold(List<Call> calls, List<String> answers) {
        expect("the example prints " + calls.size() + " answers: " + answers.size(),
                answers.size() == calls.size());
        for (int i = 0; i < calls.size() && i < answers.size(); i++) {
            Call call = calls.get(i);
            expect("line " + call.line + ": " + call.text + " answers " + call.told + ", not "
                    + answers.get(i), answers.get(i).equals(call.told));
        }
    }

    private static void typedTextsAreTold(List<Call> calls) {
        for (Call call : calls) {
            Matcher typed = TYPED.matcher(call.text);
            if (typed.matches()) {
                int word = Integer.parseUnsignedInt(typed.group(1), 16);
                String text = textOf(word, Integer.parseInt(typed.group(2)));
                expect("line " + call.line + " types " + text, text.equals(call.remark));
            }
        }
    }

    private static String textOf(int word, int n) {
        StringBuilder text = new StringBuilder("\"");
        for (int i = n - 1; i >= 0; i--) {
            text.append((char) (word >> 8 * i & 255));
        }
        return text.append('"').toString();
    }

    private static void exampleUsesTheFace(List<Call> calls) {
        Set<String> used = calls.stream().map(Call::method).collect(Collectors.toCollection(TreeSet::new));
        for (Method method : face()) {
            expect("the example uses " + method.getName(), used.contains(method.getName()));
        }
    }

    private static void readmeTellsTheFace(String readme) {
        expect("README.md tells the constructor", readme.contains("\n- `ProofCourt()`: "));
        for (Method method : face()) {
            String told = "\n- `" + method.getReturnType() + " " + method.getName() + "("
                    + String.join(", ", parameters(method)) + ")`: ";
            expect("README.md tells" + told, Pattern.compile(told
                    .replace("(", "\\(").replace(")", "\\)")).matcher(readme).find());
        }
        expect("README.md tells how to run the tests", readme.contains("`.ci/run`"));
    }

    /** Each parameter's type, with any name behind it. */
    private static List<String> parameters(Method method) {
        return Stream.of(method.getParameterTypes()).map(type -> type + " \\w+").toList();
    }

    private static List<Method> face() {
        return Stream.of(ProofCourt.class.getDeclaredMethods())
                .filter(method -> Modifier.isPublic(method.getModifiers())).toList();
    }

    /** The lines that the example prints. */
    private static List<String> outputOf(List<String> example) throws Exception {
        Path folder = Files.createTempDirectory("readme");
        try {
            Path source = Files.write(folder.resolve(EXAMPLE + ".java"), example);
            if (!compiles(source, folder)) {
                expect("the example compiles", false);
                return List.of();
            }
            return printed(folder);
        } finally {
            delete(folder);
        }
    }

    private static boolean compiles(Path source, Path folder) {
        JavaCompiler compiler = ToolProvider.getSystemJavaCompiler();
        return compiler != null && compiler.run(null, System.out, System.out, "--release", "17",
                "-cp", System.getProperty("java.class.path"), "-d", folder.toString(),
                source.toString()) == 0;
    }

    private static List<String> printed(Path folder) throws Exception {
        PrintStream before = System.out;
        ByteArrayOutputStream bytes = new ByteArrayOutputStream();
        try (URLClassLoader loader = new URLClassLoader(new URL[] {folder.toUri().toURL()})) {
            System.setOut(new PrintStream(bytes, true));
            loader.loadClass(EXAMPLE).getMethod("main", String[].class)
                    .invoke(null, (Object) new String[0]);
        } finally {
            System.setOut(before);
        }
        return bytes.toString().lines().toList();
    }

    private static void delete(Path folder) throws IOException {
        try (Stream<Path> paths = Files.walk(folder)) {
            paths.sorted(Comparator.reverseOrder()).map(Path::toFile).forEach(File::delete);
        }
    }

    private static void expect(String what, boolean holds) {
        if (!holds) {
            wrong++;
            System.out.println("it does not hold that " + what);
        }
    }
}
