import java.io.IOException;
import java.net.URL;
import java.net.URLClassLoader;
import java.nio.file.Files;
import java.nio.file.Path;
import java.util.function.BiConsumer;
import java.util.regex.Matcher;
import java.util.regex.Pattern;

/** The examples of README.md are one program: it compiles, and answers what stands behind its //. */
public final class ReadmeTest {
    private static final Pattern TOLD = Pattern.compile("(?:(?:int|boolean|char) (\\w+) = )?(x\\..*|\\(char\\) x\\..*);\\s+// (\\S+)");
    private static int answers = 0;

    public static void main(String[] args) throws Exception {
        Path work = Files.createTempDirectory("readme");
        Path source = work.resolve("Example.java");
        try {
            Files.writeString(source, example(Files.readString(Path.of("README.md"))));
            String classes = System.getProperty("java.class.path");
            int compiled = new ProcessBuilder("javac", "-cp", classes, "-d", work.toString(), source.toString())
                .inheritIO().start().waitFor();
            Check.due("compiling the examples", compiled, 0);
            if (compiled == 0) {
                run(work);
            }
        } finally {
            Files.deleteIfExists(work.resolve("Example.class"));
            Files.deleteIfExists(source);
            Files.delete(work);
        }
        Check.due("there are examples", answers > 20, true);
        Check.finish();
    }

    /** The class of all examples; it hands each line and its answer on, so that Check counts them. */
    private static String example(String readme) {
        StringBuilder text = new StringBuilder("public final class Example implements java.util.function.Consumer<"
            + "java.util.function.BiConsumer<String, String>> {\n"
            + "public void accept(java.util.function.BiConsumer<String, String> told) {\n");
        boolean inside = false;
        for (String line : readme.split("\n")) {
            if (line.startsWith("```")) {
                inside = line.equals("```java");
            } else if (inside) {
                text.append(told(line)).append('\n');
            }
        }
        return text.append("}\n}\n").toString();
    }

    private static String told(String line) {
        Matcher m = TOLD.matcher(line);
        if (!m.matches()) {
            return line;
        }
        String what = "\"" + m.group(2) + " // " + m.group(3) + "\"";
        if (m.group(1) == null) {
            return "told.accept(" + what + ", String.valueOf(" + m.group(2) + "));";
        }
        return line + "\ntold.accept(" + what + ", String.valueOf(" + m.group(1) + "));";
    }

    private static void run(Path work) throws IOException, ReflectiveOperationException {
        BiConsumer<String, String> told = (what, got) -> {
            answers++;
            Check.due(what, got, what.substring(what.indexOf("// ") + 3));
        };
        try (URLClassLoader loader = new URLClassLoader(new URL[] {work.toUri().toURL()})) {
            Object example = loader.loadClass("Example").getConstructor().newInstance();
            example.getClass().getMethod("accept", BiConsumer.class).invoke(example, told);
        }
    }
}
