import java.lang.reflect.Method;
import java.lang.reflect.Modifier;
import java.net.URL;
import java.net.URLClassLoader;
import java.nio.file.Files;
import java.nio.file.Path;
import java.util.ArrayList;
import java.util.List;
import java.util.regex.Matcher;
import java.util.regex.Pattern;
import javax.tools.ToolProvider;

/** The Java lines of README.md, run one behind the other, answer the numbers that stand behind //. */
public final class ReadmeTest {
    private static final Pattern ANSWERED = Pattern.compile("(x\\..*);\\s*// (-?\\d+)(:.*)?");
    private static final int FEWEST_ANSWERS = 40;

    public static void main(String[] args) throws Exception {
        List<String> calls = new ArrayList<>();
        List<Long> due = new ArrayList<>();
        String code = code(calls, due);
        long[] got = run(code, calls.size());
        Due.isTrue("README.md has " + calls.size() + " answers", calls.size() >= FEWEST_ANSWERS);
        for (int k = 0; k < calls.size(); k++) {
            Due.is("README.md: " + calls.get(k), got[k], due.get(k));
        }
        everyCallIsShown(code);
        Due.end();
    }

    private static String code(List<String> calls, List<Long> due) throws Exception {
        StringBuilder code = new StringBuilder();
        boolean inJava = false;
        for (String line : Files.readAllLines(Path.of("README.md"))) {
            if (line.startsWith("```")) {
                inJava = line.equals("```java");
            } else if (inJava) {
                Matcher answered = ANSWERED.matcher(line);
                if (answered.matches()) {
                    code.append("got[").append(calls.size()).append("] = ").append(answered.group(1)).append(";\n");
                    calls.add(answered.group(1));
                    due.add(Long.parseLong(answered.group(2)));
                } else {
                    Due.isTrue("no answer behind " + line, !line.contains("//"));
                    code.append(line).append('\n');
                }
            }
        }
        return code.toString();
    }

    private static long[] run(String code, int answers) throws Exception {
        Path dir = Files.createTempDirectory("readme");
        Path source = dir.resolve("ReadmeCode.java");
        try {
            Files.writeString(source,
                "public final class ReadmeCode { public static void run(long[] got) {\n" + code + "} }\n");
            int failed = ToolProvider.getSystemJavaCompiler().run(null, null, null, "-cp",
                System.getProperty("java.class.path"), "-d", dir.toString(), source.toString());
            Due.is("the lines of README.md compile", failed, 0);
            long[] got = new long[answers];
            if (failed == 0) {
                try (URLClassLoader loader = new URLClassLoader(new URL[] {dir.toUri().toURL()})) {
                    loader.loadClass("ReadmeCode").getMethod("run", long[].class).invoke(null, (Object) got);
                }
            }
            return got;
        } finally {
            Files.deleteIfExists(dir.resolve("ReadmeCode.class"));
            Files.deleteIfExists(source);
            Files.deleteIfExists(dir);
        }
    }

    private static void everyCallIsShown(String code) {
        for (Method m : OfficeLadder.class.getDeclaredMethods()) {
            if (Modifier.isPublic(m.getModifiers())) {
                Due.isTrue("README.md shows " + m.getName(), code.contains("x." + m.getName() + "("));
            }
        }
    }
}
