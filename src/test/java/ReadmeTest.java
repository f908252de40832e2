import java.io.File;
import java.io.IOException;
import java.lang.reflect.Method;
import java.net.URL;
import java.net.URLClassLoader;
import java.nio.file.Files;
import java.nio.file.Path;
import java.util.ArrayList;
import java.util.List;
import java.util.Set;
import java.util.TreeSet;
import java.util.regex.Matcher;
import java.util.regex.Pattern;
import java.util.stream.Stream;
import javax.tools.ToolProvider;

/**
 * What README.md says on the use is what the program answers: its calls are compiled as they stand,
 * made, and compared with the answers behind the arrows. It is run from the checkout, as .ci/run does.
 */
public final class ReadmeTest {
    /** A call, with or without a name for its answer, and the answer that README.md tells. */
    private static final Pattern CALL =
        Pattern.compile("(?:int (\\w+) = )?((\\w+)\\.(\\w+)\\(.*\\)); *// -> ([\\w.]+)(?:: .*)?");
    private static final Pattern OBJECT = Pattern.compile("DerivativeTape \\w+ = new DerivativeTape\\(\\);");
    private static final Pattern FILE_NAME = Pattern.compile("\\w+\\.java");

    public static void main(String[] args) throws Exception {
        List<String> readme = Files.readAllLines(Path.of("README.md"));
        List<String> calls = linesOfBlocks(readme, "```java");
        everyMethodIsShown(calls);
        makeTheCalls(calls);
        everyTestIsNamed(readme);
        theCommandsAreTold(readme);
        Check.finish();
    }

    private static List<String> linesOfBlocks(List<String> readme, String opening) {
        List<String> lines = new ArrayList<>();
        boolean inside = false;
        for (String line : readme) {
            if (inside && !line.startsWith("```") && !line.isBlank()) lines.add(line);
            if (line.startsWith("```")) inside = line.equals(opening);
        }
        return lines;
    }

    private static void everyMethodIsShown(List<String> calls) {
        Set<String> shown = new TreeSet<>();
        for (String line : calls) {
            Matcher call = CALL.matcher(line);
            boolean isCall = call.matches();
            if (isCall) shown.add(call.group(4));
            Check.due("README.md tells the answer of: " + line, isCall || OBJECT.matcher(line).matches(), true);
        }
        for (Method method : DerivativeTape.class.getDeclaredMethods()) {
            boolean isPublic = (method.getModifiers() & 1) != 0;
            if (isPublic) Check.due("README.md shows " + method.getName(), shown.contains(method.getName()), true);
        }
    }

    private static void makeTheCalls(List<String> calls) throws Exception {
        Path folder = Files.createTempDirectory("readme");
        Path source = folder.resolve("ReadmeCalls.java");
        Files.writeString(source, programOf(calls));
        String classes = System.getProperty("java.class.path");
        int failed = ToolProvider.getSystemJavaCompiler().run(null, null, null,
            "-encoding", "UTF-8", "-cp", classes, "-d", folder.toString(), source.toString());
        Check.due("the calls of README.md compile", failed, 0);
        if (failed == 0) compare(folder, calls);
        for (File file : folder.toFile().listFiles()) file.delete();
        Files.delete(folder);
    }

    /** A class whose answers are, call by call, what came and what README.md says. */
    private static String programOf(List<String> calls) {
        StringBuilder text = new StringBuilder("public class ReadmeCalls {\n");
        text.append("  public static void make(java.util.List<Object> came, java.util.List<Object> told) {\n");
        for (String line : calls) {
            Matcher call = CALL.matcher(line);
            if (!call.matches()) {
                text.append(line).append('\n');
                continue;
            }
            String name = call.group(1);
            if (name != null) text.append("int ").append(name).append(" = ").append(call.group(2)).append(";\n");
            text.append("came.add(").append(name != null ? name : call.group(2)).append(");\n");
            text.append("told.add(").append(call.group(5)).append(");\n");
        }
        return text.append("  }\n}\n").toString();
    }

    private static void compare(Path folder, List<String> calls) throws Exception {
        List<Object> came = new ArrayList<>();
        List<Object> told = new ArrayList<>();
        try (URLClassLoader loader = new URLClassLoader(new URL[] {folder.toUri().toURL()})) {
            loader.loadClass("ReadmeCalls").getMethod("make", List.class, List.class).invoke(null, came, told);
        }
        int at = 0;
        for (String line : calls) {
            if (!CALL.matcher(line).matches()) continue;
            Check.due("README.md: " + line + " (came " + came.get(at) + ")", came.get(at).equals(told.get(at)), true);
            at++;
        }
    }

    private static void everyTestIsNamed(List<String> readme) throws IOException {
        Set<String> named = new TreeSet<>();
        Matcher names = FILE_NAME.matcher(String.join("\n", readme));
        while (names.find()) named.add(names.group());
        Set<String> there = new TreeSet<>(Set.of("DerivativeTape.java"));
        try (Stream<Path> files = Files.list(Path.of("src/test/java"))) {
            files.forEach(file -> there.add(file.getFileName().toString()));
        }
        Check.due("README.md names " + named + ", there are " + there, named.equals(there), true);
    }

    private static void theCommandsAreTold(List<String> readme) {
        List<String> commands = linesOfBlocks(readme, "```sh");
        Check.due("README.md tells how to run all tests", commands.contains(".ci/run"), true);
        Check.due(".ci/run can be run", Files.isExecutable(Path.of(".ci/run")), true);
        for (String command : commands) {
            for (String word : command.split(" ")) {
                if (word.contains("/")) Check.due("there is " + word, Files.exists(Path.of(word)), true);
            }
        }
    }
}
