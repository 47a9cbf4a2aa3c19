import java.io.IOException;
import java.lang.invoke.MethodHandles;
import java.lang.reflect.Method;
import java.lang.reflect.Modifier;
import java.nio.file.Files;
import java.nio.file.Path;
import java.util.Comparator;
import java.util.List;
import java.util.regex.Matcher;
import java.util.regex.Pattern;
import java.util.stream.Stream;
import javax.tools.ToolProvider;

/** Runs the examples of README.md as one program: a line that ends with '// 34' or '// 34: why' answers 34. */
public final class ReadmeTest {
    private static final Path README = Path.of("README.md");
    private static final Pattern EXAMPLE = Pattern.compile("```java\n(.*?)```", Pattern.DOTALL);
    private static final Pattern SHOWN = Pattern.compile("(?:int (\\w+) = )?(.*);\\s*// (-?\\d+|true|false)(?::.*)?");

    private ReadmeTest() {
    }

    public static void main(String[] args) throws Exception {
        String readme = Files.readString(README);
        speaksOfEachCall(readme);
        Path dir = Files.createTempDirectory("readme");
        try {
            run(dir, program(readme));
        } finally {
            delete(dir);
        }
        Due.close("ReadmeTest");
    }

    private static void speaksOfEachCall(String readme) {
        for (Method method : TermReckoner.class.getDeclaredMethods()) {
            if (Modifier.isPublic(method.getModifiers())) {
                boolean named = Pattern.compile("`" + method.getName() + "[`(]").matcher(readme).find();
                Due.same("README.md speaks of " + method.getName(), named, true);
            }
        }
    }

    private static String program(String readme) {
        StringBuilder program = new StringBuilder("public final class Readme {\npublic static void run() {\n");
        int shown = 0;
        for (Matcher example = EXAMPLE.matcher(readme); example.find();) {
            for (String line : example.group(1).split("\n")) {
                Matcher answer = SHOWN.matcher(line);
                if (answer.matches()) {
                    program.append(check(answer.group(1), answer.group(2), answer.group(3)));
                    shown++;
                } else {
                    program.append(line).append('\n');
                }
            }
        }
        Due.same("README.md shows answers", shown >= 40, true);
        return program.append("}\n}\n").toString();
    }

    private static String check(String name, String call, String answer) {
        String what = "README.md: " + call.trim();
        if (name == null) {
            return "Due.same(\"" + what + "\", " + call.trim() + ", " + answer + ");\n";
        }
        return "int " + name + " = " + call + ";\nDue.same(\"" + what + "\", " + name + ", " + answer + ");\n";
    }

    private static void run(Path dir, String program) throws Exception {
        Path source = Files.writeString(dir.resolve("Readme.java"), program);
        String path = System.getProperty("java.class.path");
        int status = ToolProvider.getSystemJavaCompiler().run(null, null, null, "-cp", path, "-d", dir.toString(),
                source.toString());
        Due.same("README.md's examples compile with", status, 0);
        if (status == 0) {
            byte[] compiled = Files.readAllBytes(dir.resolve("Readme.class"));
            MethodHandles.lookup().defineClass(compiled).getMethod("run").invoke(null);
        }
    }

    private static void delete(Path dir) throws IOException {
        List<Path> all;
        try (Stream<Path> walk = Files.walk(dir)) {
            all = walk.sorted(Comparator.reverseOrder()).toList();
        }
        for (Path each : all) {
            Files.delete(each);
        }
    }
}
