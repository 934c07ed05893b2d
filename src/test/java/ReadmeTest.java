import java.io.IOException;
import java.lang.reflect.Method;
import java.nio.charset.StandardCharsets;
import java.nio.file.DirectoryStream;
import java.nio.file.Files;
import java.nio.file.Path;
import java.util.ArrayList;
import java.util.Comparator;
import java.util.List;
import java.util.Map;
import java.util.Random;
import java.util.TreeMap;
import java.util.TreeSet;
import java.util.regex.Matcher;
import java.util.regex.Pattern;
import java.util.stream.Stream;
import javax.tools.ToolProvider;

/** README.md: its examples answer just so when they are run, its list has every call and how each may be refused. */
public final class ReadmeTest {
    private static final Path README = Path.of("README.md");
    private static final Path TESTS = Path.of("src/test/java");
    private static final Pattern EXAMPLE = Pattern.compile("(?ms)^```java\n(.*?)^```$");
    private static final Pattern CALL = Pattern.compile("(?:(int) (\\w+) = )?(x\\.\\w+\\([^;]*\\)); +// (-?\\d+)(?::.*)?");
    private static final Pattern ROW = Pattern.compile("(?m)^\\| `(\\w+)\\(([^)]*)\\)` \\| [^|]+ \\|([A-Z ]*)\\|$");
    private static final String[] REFUSALS = {"BAD", "OTHER", "NOTHING", "STUCK", "FULL"};
    private static final int FIRST_REFUSALS = 12;

    private static void holds(String what, boolean is) {
        Check.due(what, 1, is ? 1 : 0);
    }

    // ---- the examples

    /** The example with each told answer held against the call's. */
    private static String checked(String example, String name) {
        StringBuilder code = new StringBuilder("public final class " + name + " {\n    public static void run() {\n");
        for (String line : example.split("\n")) {
            Matcher call = CALL.matcher(line);
            if (call.matches()) {
                String told = call.group(3).replace("\\", "\\\\").replace("\"", "\\\"");
                String keep = call.group(1) == null ? "long got" : call.group(1) + " " + call.group(2);
                String kept = call.group(1) == null ? "got" : call.group(2);
                boolean isScoped = call.group(1) == null;
                code.append(isScoped ? "{ " : "").append(keep).append(" = ").append(call.group(3)).append("; Check.due(\"README: ")
                    .append(told).append("\", ").append(call.group(4)).append(", ").append(kept).append(");")
                    .append(isScoped ? " }" : "").append('\n');
            } else {
                holds("README tells the answer of: " + line, !line.startsWith("x.") && !line.contains("= x.") && !line.contains("//"));
                code.append(line).append('\n');
            }
        }
        return code.append("    }\n}\n").toString();
    }

    private static int answersIn(String example) {
        int count = 0;
        for (String line : example.split("\n")) {
            count += CALL.matcher(line).matches() ? 1 : 0;
        }
        return count;
    }

    private static void examples(String readme) throws Exception {
        // In the folder of the test's own classes, where these and Check are found.
        Path folder = Path.of(ReadmeTest.class.getProtectionDomain().getCodeSource().getLocation().toURI());
        Path sources = Files.createTempDirectory("readme");
        int number = 0;
        int answers = 0;
        Matcher example = EXAMPLE.matcher(readme);
        while (example.find()) {
            number++;
            answers += answersIn(example.group(1));
            String name = "ReadmeExample" + number;
            Path source = sources.resolve(name + ".java");
            Files.writeString(source, checked(example.group(1), name), StandardCharsets.UTF_8);
            int failed = ToolProvider.getSystemJavaCompiler().run(null, null, null, "-cp", folder.toString(), "-d", folder.toString(),
                source.toString());
            Check.due("README's example " + number + " compiles", 0, failed);
            if (failed == 0) {
                Class.forName(name).getMethod("run").invoke(null);
            }
        }
        holds("README has examples", number >= 4 && answers >= 40);
        try (Stream<Path> all = Files.walk(sources)) {
            for (Path path : all.sorted(Comparator.reverseOrder()).toList()) {
                Files.delete(path);
            }
        }
    }

    // ---- the list of calls

    private static Map<String, TreeSet<String>> list(String readme) {
        Map<String, TreeSet<String>> refusals = new TreeMap<>();
        List<String> calls = new ArrayList<>();
        Matcher row = ROW.matcher(readme);
        while (row.find()) {
            calls.add(row.group(1) + "(" + row.group(2) + ")");
            refusals.put(row.group(1), new TreeSet<>(row.group(3).isBlank() ? List.of() : List.of(row.group(3).trim().split(" "))));
        }
        Check.due("README lists so many calls", Face.METHODS.length, calls.size());
        for (int k = 0; k < Math.min(calls.size(), Face.METHODS.length); k++) {
            List<String> names = new ArrayList<>();
            for (String parameter : Face.parameters(Face.METHODS[k])) {
                names.add(parameter.substring(parameter.indexOf(' ') + 1));
            }
            String due = Face.name(Face.METHODS[k]) + "(" + String.join(", ", names) + ")";
            holds("README lists " + due + " in the face's order", due.equals(calls.get(k)));
        }
        return refusals;
    }

    private static Map<String, Method> methods() {
        Map<String, Method> all = new TreeMap<>();
        for (Method m : TownRiverBeast.class.getMethods()) {
            all.put(m.getName(), m);
        }
        return all;
    }

    private static Object argument(String parameter, Random r) {
        if (parameter.startsWith("boolean")) {
            return r.nextBoolean();
        }
        int v = r.nextInt(30) == 0 ? 1000 : r.nextInt(9) - 2;
        return parameter.startsWith("long") ? (Object) (long) v : (Object) v;
    }

    private static TownRiverBeast world(Random r) {
        TownRiverBeast x = r.nextBoolean() ? Worlds.story() : r.nextBoolean() ? new TownRiverBeast() : Worlds.tape(250);
        while (r.nextInt(8) != 0) {
            x.word(0, 0, 0, 1, 0);
        }
        return x;
    }

    /** Any calls: each is refused as the list has it, and in no other way. */
    private static void refusals(Map<String, TreeSet<String>> list) throws ReflectiveOperationException {
        Map<String, Method> methods = methods();
        Map<String, TreeSet<String>> seen = new TreeMap<>();
        Random r = new Random(20261118);
        for (int run = 0; run < 2000; run++) {
            TownRiverBeast x = world(r);
            for (int k = 0; k < 200; k++) {
                String method = Face.METHODS[r.nextInt(Face.METHODS.length)];
                List<Object> arguments = new ArrayList<>();
                for (String parameter : Face.parameters(method)) {
                    arguments.add(argument(parameter, r));
                }
                int[] before = counts(x);
                methods.get(Face.name(method)).invoke(x, arguments.toArray());
                int[] after = counts(x);
                for (int why = 0; why < REFUSALS.length; why++) {
                    if (after[why] != before[why]) {
                        seen.computeIfAbsent(Face.name(method), name -> new TreeSet<>()).add(REFUSALS[why]);
                    }
                }
            }
        }
        for (String method : Face.METHODS) {
            String name = Face.name(method);
            TreeSet<String> told = list.getOrDefault(name, new TreeSet<>());
            TreeSet<String> got = seen.getOrDefault(name, new TreeSet<>());
            holds(name + " is refused with " + got + ", README tells " + told, told.equals(got));
        }
    }

    private static int[] counts(TownRiverBeast x) {
        int[] all = new int[REFUSALS.length];
        for (int why = 0; why < all.length; why++) {
            all[why] = x.status(FIRST_REFUSALS + why);
        }
        return all;
    }

    private static void testsAreNamed(String readme) throws IOException {
        try (DirectoryStream<Path> sources = Files.newDirectoryStream(TESTS, "*.java")) {
            for (Path source : sources) {
                String name = source.getFileName().toString().replace(".java", "");
                holds("README names " + name, readme.contains("`" + name + "`"));
            }
        }
        for (int why = 0; why < REFUSALS.length; why++) {
            String row = "| " + (-2 - why) + " | " + REFUSALS[why] + " | ";
            holds("README tells " + REFUSALS[why], readme.contains(row) && readme.substring(readme.indexOf(row)).lines().findFirst()
                .orElse("").endsWith("| `status(" + (FIRST_REFUSALS + why) + ")` |"));
        }
    }

    public static void main(String[] args) throws Exception {
        String readme = Files.readString(README, StandardCharsets.UTF_8);
        examples(readme);
        refusals(list(readme));
        testsAreNamed(readme);
        Check.end();
    }
}
