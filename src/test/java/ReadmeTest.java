import java.io.ByteArrayOutputStream;
import java.io.File;
import java.io.IOException;
import java.io.PrintStream;
import java.net.URL;
import java.net.URLClassLoader;
import java.nio.charset.StandardCharsets;
import java.nio.file.Files;
import java.nio.file.Path;
import java.util.Set;
import java.util.TreeSet;
import java.util.regex.Matcher;
import java.util.regex.Pattern;
import java.util.spi.ToolProvider;

/** README.md is true: its program prints what it says, and it names the tests that there are. */
public final class ReadmeTest {
    private static int wrong = 0;

    private static void due(String what, Object got, Object want) {
        if (!want.equals(got)) {
            wrong++;
            System.out.println(what + " is\n" + got + "\ndue is\n" + want);
        }
    }

    /** The first block of a kind, without its fences. */
    private static String block(String page, String kind) {
        Matcher found = Pattern.compile("(?s)```" + kind + "\n(.*?)```").matcher(page);
        return found.find() ? found.group(1) : "";
    }

    private static String printed(Path home) throws ReflectiveOperationException, IOException {
        PrintStream before = System.out;
        ByteArrayOutputStream held = new ByteArrayOutputStream();
        try (URLClassLoader loader = new URLClassLoader(new URL[] {home.toUri().toURL()}, null);
                PrintStream out = new PrintStream(held, true, StandardCharsets.UTF_8)) {
            System.setOut(out);
            Object noWords = new String[0];
            loader.loadClass("Example").getMethod("main", String[].class).invoke(null, noWords);
        } finally {
            System.setOut(before);
        }
        return held.toString(StandardCharsets.UTF_8).replace("\r\n", "\n");
    }

    private static void example(String page) throws ReflectiveOperationException, IOException {
        Path home = Files.createDirectories(Path.of("build", "readme"));
        Path source = home.resolve("Example.java");
        Files.writeString(source, block(page, "java"), StandardCharsets.UTF_8);
        ToolProvider javac = ToolProvider.findFirst("javac").orElseThrow();
        int failed = javac.run(System.out, System.out, "-Xlint:all", "-Werror", "-d", home.toString(),
                "src/main/java/BoilerRoll.java", source.toString());
        due("what javac says of the program of README.md", failed, 0);
        if (failed == 0) {
            due("what the program of README.md prints", printed(home), block(page, "text"));
        }
    }

    private static void names(String page) {
        Set<String> there = new TreeSet<>();
        File[] files = new File("src/test/java").listFiles();
        for (File file : files == null ? new File[0] : files) {
            there.add(file.getName().replace(".java", ""));
        }
        Set<String> named = new TreeSet<>();
        Matcher found = Pattern.compile("`(\\w+Test)`").matcher(page);
        while (found.find()) {
            named.add(found.group(1));
        }
        due("the tests that README.md names", named, there);
    }

    public static void main(String[] args) throws ReflectiveOperationException, IOException {
        String page = Files.readString(Path.of("README.md"), StandardCharsets.UTF_8);
        example(page);
        names(page);
        System.out.println(wrong == 0 ? "all is as due" : wrong + " are not as due");
        if (wrong != 0) {
            System.exit(1);
        }
    }
}
