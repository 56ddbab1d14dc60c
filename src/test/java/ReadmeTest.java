import java.io.IOException;
import java.net.URL;
import java.net.URLClassLoader;
import java.nio.charset.StandardCharsets;
import java.nio.file.Files;
import java.nio.file.Path;
import java.util.ArrayList;
import java.util.Comparator;
import java.util.List;
import java.util.regex.Matcher;
import java.util.regex.Pattern;
import java.util.stream.Stream;
import javax.tools.ToolProvider;

/** The program in README.md compiles, and its calls answer what is told beside them. */
public final class ReadmeTest {
    private static final Check CHECK = new Check();
    private static final Pattern BLOCK = Pattern.compile("(?s)```java\n(.*?)```");
    private static final Pattern CALL = Pattern.compile("(x\\.\\w+\\([^;]*\\)); +// (-?\\d+): ([^\"]*(?:\"(.*)\")?)");

    public static void main(String[] args) throws Exception {
        List<String> blocks = new ArrayList<>();
        Matcher m = BLOCK.matcher(Files.readString(Path.of("README.md"), StandardCharsets.UTF_8));
        while (m.find()) {
            blocks.add(m.group(1));
        }
        CHECK.due("blocks of Java in README.md", blocks.size(), 2);
        List<String> due = new ArrayList<>();
        List<String> answered = run(program(blocks.get(0), blocks.get(1), due));
        CHECK.due("calls with an answer beside them", due.size() > 10, true);
        CHECK.due("answers", answered.size(), due.size());
        for (int i = 0; i < due.size() && i < answered.size(); i++) {
            CHECK.due("README.md", answered.get(i), due.get(i));
        }
        CHECK.end();
    }

    /** Both blocks as a class that answers what its calls answered; what is due is added to a list. */
    private static String program(String helper, String body, List<String> due) {
        StringBuilder text = new StringBuilder("import java.util.*;\npublic final class Readme {\n" + helper
            + "public static List<String> told() {\nList<String> told = new ArrayList<>();\n");
        for (String line : body.split("\n")) {
            Matcher m = CALL.matcher(line);
            if (!m.matches()) {
                text.append(line).append('\n');
                continue;
            }
            String call = m.group(1);
            text.append("told.add(\"" + call + " \" + " + call + ");\n");
            due.add(call + " " + m.group(2));
            if (m.group(4) != null) {
                text.append("StringBuilder said = new StringBuilder();\n"
                    + "for (int i = 0; x.said(i) >= 0; i++) {\nsaid.append((char) x.said(i));\n}\n"
                    + "told.add(\"said \" + said);\n");
                due.add("said " + m.group(4));
            }
        }
        return text.append("return told;\n}\n}\n").toString();
    }

    private static List<String> run(String program) throws Exception {
        Path place = Files.createTempDirectory("readme");
        try {
            Path file = Files.writeString(place.resolve("Readme.java"), program, StandardCharsets.UTF_8);
            int failed = ToolProvider.getSystemJavaCompiler().run(null, null, null, "-cp",
                System.getProperty("java.class.path"), "-d", place.toString(), file.toString());
            CHECK.due("whether README.md's program compiles", failed == 0, true);
            return failed == 0 ? told(place) : List.of();
        } finally {
            remove(place);
        }
    }

    private static List<String> told(Path place) throws Exception {
        try (URLClassLoader loader = new URLClassLoader(new URL[] {place.toUri().toURL()})) {
            List<String> told = new ArrayList<>();
            for (Object line : (List<?>) loader.loadClass("Readme").getMethod("told").invoke(null)) {
                told.add(line.toString());
            }
            return told;
        }
    }

    private static void remove(Path place) throws IOException {
        List<Path> all = new ArrayList<>();
        try (Stream<Path> inside = Files.walk(place)) {
            inside.sorted(Comparator.reverseOrder()).forEach(all::add);
        }
        for (Path path : all) {
            Files.delete(path);
        }
    }
}
