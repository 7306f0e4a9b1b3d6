import java.nio.file.Files;
import java.nio.file.Path;
import java.util.ArrayList;
import java.util.List;
import java.util.regex.Matcher;
import java.util.regex.Pattern;
import javax.tools.ToolProvider;

/** The example in README.md: a line 'int a = ..; // 5' is asked whether a is 5. */
public final class ReadmeTest {
    private static final Checks c = new Checks("ReadmeTest");
    private static final Pattern BLOCK = Pattern.compile("```java\n(.*?)```", Pattern.DOTALL);
    private static final Pattern LINE = Pattern.compile("(?:int|boolean) (\\w+) = .*; +// (-?\\d+|true|false)\\b.*");

    public static void main(String[] args) throws Exception {
        List<String> blocks = new ArrayList<>();
        Matcher found = BLOCK.matcher(Files.readString(Path.of("README.md")));
        while (found.find()) {
            blocks.add(found.group(1));
        }
        c.due("blocks of Java in README.md", blocks.size(), 2);
        if (!c.isWrong()) {
            run(blocks.get(0), blocks.get(1));
        }
        c.end();
    }

    private static void run(String calls, String helper) throws Exception {
        StringBuilder code = new StringBuilder("final class Readme { static String wrong = \"\";\n");
        code.append(helper).append("static String run() {\n");
        int asked = 0;
        for (String line : calls.split("\n")) {
            code.append(line).append('\n');
            Matcher m = LINE.matcher(line);
            if (m.matches()) {
                asked++;
                code.append("if (").append(m.group(1)).append(" != ").append(m.group(2)).append(") wrong += \" ")
                    .append(m.group(1)).append(" is \" + ").append(m.group(1)).append(";\n");
            } else {
                c.due("a line without an answer: " + line, line.startsWith("int ") || line.startsWith("boolean "), false);
            }
        }
        code.append("return wrong; } }\n");
        c.due("lines with an answer", asked > 20, true);
        Path dir = Files.createTempDirectory("readme");
        Path file = Files.writeString(dir.resolve("Readme.java"), code);
        try {
            String classes = System.getProperty("java.class.path");
            c.due("javac", ToolProvider.getSystemJavaCompiler().run(null, null, null, "-cp", classes, "-d", dir.toString(), file.toString()), 0);
            String wrong = c.isWrong() ? "" : outcome(dir);
            c.due("the answers in README.md:" + wrong, wrong.isEmpty(), true);
        } finally {
            Files.deleteIfExists(dir.resolve("Readme.class"));
            Files.delete(file);
            Files.delete(dir);
        }
    }

    private static String outcome(Path dir) throws Exception {
        try (java.net.URLClassLoader loader = new java.net.URLClassLoader(new java.net.URL[] {dir.toUri().toURL()})) {
            java.lang.reflect.Method run = loader.loadClass("Readme").getDeclaredMethod("run");
            run.setAccessible(true);
            return (String) run.invoke(null);
        }
    }
}
