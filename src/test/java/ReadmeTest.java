import java.io.IOException;
import java.net.URL;
import java.net.URLClassLoader;
import java.nio.file.Files;
import java.nio.file.Path;
import java.util.ArrayList;
import java.util.Arrays;
import java.util.Comparator;
import java.util.List;
import java.util.TreeSet;
import java.util.regex.Matcher;
import java.util.regex.Pattern;
import java.util.stream.Stream;
import javax.tools.JavaCompiler;
import javax.tools.ToolProvider;

/** What README.md says is so: its code is compiled and run, and the tests that it names are those that there are. */
public final class ReadmeTest {
    private static final Pattern BLOCK = Pattern.compile("```java\\n(.*?)```", Pattern.DOTALL);
    private static final Pattern CALL = Pattern.compile("(?m)^(x\\.\\w+\\(.*?\\)); *// (-?\\d+)\\b.*$");
    private static final Pattern TEST = Pattern.compile("`(\\w+Test)`");
    private static final int CALLS = 18;

    public static void main(String[] args) throws Exception {
        String readme = Files.readString(Path.of("README.md")).replace("\r", "");
        Path folder = Files.createTempDirectory("readme");
        try {
            code(readme, folder);
        } finally {
            remove(folder);
        }
        testsThatThereAre(readme);
        Check.finish();
    }

    /** Each call of the first block is held against the number behind it; the second block reads a row of bytes. */
    private static void code(String readme, Path folder) throws Exception {
        List<String> blocks = new ArrayList<>();
        Matcher found = BLOCK.matcher(readme);
        while (found.find()) {
            blocks.add(found.group(1));
        }
        Check.due("blocks of code", blocks.size(), 2);
        if (blocks.size() != 2) {
            return;
        }
        Matcher calls = CALL.matcher(blocks.get(0));
        Check.due("calls with an answer", calls.results().count(), CALLS);
        String first = calls.reset().replaceAll("due(\"$1\", $1, $2);");
        String program = "public final class Example {\n"
            + "static final java.util.List<String> WRONG = new java.util.ArrayList<>();\n"
            + "static void due(String call, long got, long want) {\n"
            + "if (got != want) WRONG.add(call + \" answered \" + got + \", README.md says \" + want); }\n"
            + "public static java.util.List<String> first() {\n" + first + "return WRONG; }\n"
            + "public " + blocks.get(1) + "}\n";
        run(program, folder);
    }

    private static void run(String program, Path folder) throws Exception {
        Path file = folder.resolve("Example.java");
        Files.writeString(file, program);
        JavaCompiler compiler = ToolProvider.getSystemJavaCompiler();
        String here = System.getProperty("java.class.path");
        int failed = compiler.run(null, null, null, "-cp", here, "-d", folder.toString(), file.toString());
        Check.due("compiling the code of README.md", failed, 0);
        if (failed != 0) {
            return;
        }
        try (URLClassLoader loader = new URLClassLoader(new URL[] {folder.toUri().toURL()}, ReadmeTest.class.getClassLoader())) {
            Class<?> example = loader.loadClass("Example");
            for (Object wrong : (List<?>) example.getMethod("first").invoke(null)) {
                Check.wrong(wrong.toString());
            }
            for (int length = 0; length <= 2000; length++) {
                readsARow(example, length);
            }
            readsGreatBytes(example);
        }
    }

    /** As many sections 0 1 0 as there is room for; one that is cut is a fault. */
    private static void readsARow(Class<?> example, int length) throws Exception {
        int[] all = Check.bytes(Check.HEAD + "0 1 0 ".repeat(664));
        ModuleBytes x = new ModuleBytes();
        int cut = length < 8 ? 1 : (length - 8) % 3;
        Check.due("read of " + length + " bytes", read(example, x, Arrays.copyOf(all, length)), cut);
        Check.due("place after " + length + " bytes", x.place(), cut == 0 ? -1 : cut == 1 ? length : length - 1);
        Check.due("many(10) after " + length + " bytes", x.many(10), cut == 0 ? (length - 8) / 3 : 0);
    }

    private static void readsGreatBytes(Class<?> example) throws Exception {
        String text = "97 195 164 226 130 172 240 159 152 128 244 143 191 191 98";
        int[] name = Check.bytes(text);
        ModuleBytes x = new ModuleBytes();
        int[] all = Check.bytes(Check.HEAD + Check.section(0, Check.sized(text)));
        Check.due("read of great bytes", read(example, x, all), 0);
        for (int i = 0; i < name.length; i++) {
            Check.due("name(10, 0, 0, " + i + ")", x.name(10, 0, 0, i), name[i]);
        }
    }

    private static int read(Class<?> example, ModuleBytes x, int[] all) throws Exception {
        byte[] bytes = new byte[all.length];
        for (int i = 0; i < all.length; i++) {
            bytes[i] = (byte) all[i];
        }
        return (Integer) example.getMethod("read", ModuleBytes.class, byte[].class).invoke(null, x, bytes);
    }

    private static void testsThatThereAre(String readme) throws IOException {
        TreeSet<String> named = new TreeSet<>();
        Matcher found = TEST.matcher(readme);
        while (found.find()) {
            named.add(found.group(1));
        }
        TreeSet<String> there = new TreeSet<>();
        try (Stream<Path> files = Files.list(Path.of("src/test/java"))) {
            files.map(file -> file.getFileName().toString())
                .filter(name -> name.endsWith("Test.java"))
                .forEach(name -> there.add(name.substring(0, name.length() - ".java".length())));
        }
        if (!named.equals(there)) {
            Check.wrong("README.md names the tests " + named + ", there are " + there);
        }
    }

    private static void remove(Path folder) throws IOException {
        List<Path> all;
        try (Stream<Path> found = Files.walk(folder)) {
            all = found.sorted(Comparator.reverseOrder()).toList();
        }
        for (Path one : all) {
            Files.delete(one);
        }
    }
}
