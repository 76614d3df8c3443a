import java.io.IOException;
import java.net.MalformedURLException;
import java.net.URL;
import java.net.URLClassLoader;
import java.nio.file.Files;
import java.nio.file.Path;
import java.util.ArrayList;
import java.util.List;
import java.util.regex.Matcher;
import java.util.regex.Pattern;
import javax.tools.ToolProvider;

/** The runs that README.md shows, compiled as they stand there: a number behind "//" is the answer that is due. */
public final class ReadmeTest {
    private static final Pattern BLOCK = Pattern.compile("(?s)```java\n(.*?)```");
    /** A call, the name that its answer is kept by (if any), the answer that is due. */
    private static final Pattern LINE = Pattern.compile("(?:int (\\w+) = )?(ledger\\..*?); *// (-?\\d+)(?::.*)?");

    private ReadmeTest() { }

    /** The lines of a class whose tell() answers, two by two, what was told and what was due. */
    private static String program(String name, String block, List<String> calls) {
        StringBuilder code = new StringBuilder("public final class ").append(name)
            .append(" { public static long[] tell() { java.util.List<Long> told = new java.util.ArrayList<>();\n");
        for (String line : block.split("\n")) {
            Matcher m = LINE.matcher(line);
            if (!m.matches()) {
                code.append(line).append('\n');
                continue;
            }
            if (m.group(1) == null) code.append("told.add((long) ").append(m.group(2)).append(");");
            else code.append(line.substring(0, line.indexOf("//"))).append("told.add((long) ").append(m.group(1)).append(");");
            code.append(" told.add(").append(m.group(3)).append("L);\n");
            calls.add(m.group(2));
        }
        return code.append("return told.stream().mapToLong(Long::longValue).toArray(); } }\n").toString();
    }

    private static URL[] places(Path out) throws MalformedURLException {
        return new URL[] {out.toUri().toURL()};
    }

    private static void hold(Check check, Path out, String name, String block)
            throws IOException, ReflectiveOperationException {
        List<String> calls = new ArrayList<>();
        Path file = out.resolve(name + ".java");
        Files.writeString(file, program(name, block, calls));
        String path = System.getProperty("java.class.path");
        int code = ToolProvider.getSystemJavaCompiler()
            .run(null, null, null, "-cp", path, "-d", out.toString(), file.toString());
        check.due(name + " compiles", code, 0);
        if (code != 0) return;
        try (URLClassLoader loader = new URLClassLoader(places(out), ReadmeTest.class.getClassLoader())) {
            long[] told = (long[]) loader.loadClass(name).getMethod("tell").invoke(null);
            check.due(name + " has calls", calls.isEmpty() ? 0 : 1, 1);
            for (int i = 0; i < calls.size(); i++) check.due(name + ": " + calls.get(i), told[2 * i], told[2 * i + 1]);
        }
        Files.delete(out.resolve(name + ".class"));
        Files.delete(file);
    }

    public static void main(String[] args) throws IOException, ReflectiveOperationException {
        Check check = new Check();
        Path out = Files.createTempDirectory("readme");
        Matcher blocks = BLOCK.matcher(Files.readString(Path.of("README.md")));
        int many = 0;
        while (blocks.find()) hold(check, out, "Readme" + ++many, blocks.group(1));
        Files.delete(out);
        check.due("runs in README.md", many, 2);
        check.end("ReadmeTest");
    }
}
