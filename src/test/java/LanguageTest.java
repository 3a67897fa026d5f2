import java.io.File;
import java.io.IOException;
import java.lang.reflect.Field;
import java.lang.reflect.Method;
import java.lang.reflect.Modifier;
import java.nio.charset.StandardCharsets;
import java.nio.file.Files;
import java.util.ArrayList;
import java.util.List;
import java.util.regex.Matcher;
import java.util.regex.Pattern;

/** What of ../shared/LANGUAGE.md can be seen from the outside: one file, its words, the sizes of its parts. */
public final class LanguageTest {
    private static final String HOME = "src/main/java";
    private static final int MOST_LINES = 60;
    private static final int MOST_PARAMETERS = 7;
    private static final int MOST_CLASSES = 12;
    private static final int MOST_FIELDS = 20;

    private static int wrong = 0;

    private static void due(String what, Object got, Object want) {
        if (!want.equals(got)) {
            wrong++;
            System.out.println(what + " is " + got + ", due is " + want);
        }
    }

    private static void files(File home, List<String> found) {
        File[] all = home.listFiles();
        for (File one : all == null ? new File[0] : all) {
            if (one.isDirectory()) {
                files(one, found);
            } else {
                found.add(one.getPath().replace('\\', '/'));
            }
        }
    }

    private static String withoutComments(String source) {
        return source.replaceAll("(?s)/\\*.*?\\*/", "").replaceAll("//[^\n]*", "");
    }

    private static void none(String code, String rule, String regex) {
        Matcher found = Pattern.compile(regex).matcher(code);
        due("rule " + rule + ", what the file holds of " + regex, found.find() ? found.group() : "none", "none");
    }

    private static void words(String code) {
        none(code, "1", "(?m)^\\s*package\\b");
        none(code, "4", "(?m)^import (?!java\\.util\\.(ArrayList|Arrays|Iterator|List|NoSuchElementException);)[^\n]*");
        none(code, "4", "\\bSystem\\.(?!arraycopy\\()\\w+");
        none(code, "4", "\\w+Exact\\(");
        none(code, "4", "\\bjava\\.(io|nio|net|time|lang|util\\.(Random|concurrent|stream))\\b");
        none(code, "2", "::");
        none(code, "2", "\\)\\s*->");
        none(code, "2", "[=(,]\\s*\\w+\\s*->");
        none(code, "3", "\\b(Long|Short|Byte|Character|Boolean|Double|Float|Object|Map|Set)\\b");
        none(code, "6", "\\b(finally|synchronized|assert)\\b");
        // the document names no exception
        none(code, "6", "\\b(throw|throws|try|catch)\\b");
        none(code, "6", "\\b(Throwable|Error|NullPointerException|ArrayIndexOutOfBoundsException|ClassCastException)\\b");
        none(code, "6", "\\b(NegativeArraySizeException|ArrayStoreException|StackOverflowError|OutOfMemoryError)\\b");
        none(code, "6", "\\b(hashCode|getMessage|printStackTrace)\\(");
        none(code, "9", "while \\(true\\)|for \\(;;\\)");
        none(code, "13", "\\b(Random|Thread|Runtime|nanoTime|currentTimeMillis)\\b");
    }

    /** A method begins where a line with a round bracket opens a brace within a class, outside of a method. */
    private static void lengths(String source) {
        String[] lines = source.split("\n");
        int begun = -1;
        String closing = "";
        for (int i = 0; i < lines.length; i++) {
            Matcher opens = Pattern.compile("^( {4}| {8})(?!class|return|if|for|while|switch|else|\\}| )\\S.*\\(.*\\) \\{$").matcher(lines[i]);
            if (begun < 0 && opens.find()) {
                begun = i;
                closing = opens.group(1) + "}";
            } else if (begun >= 0 && lines[i].equals(closing)) {
                int length = i - begun + 1;
                due("rule 11, whether " + lines[begun].trim() + " of " + length + " lines is short", length <= MOST_LINES, true);
                begun = -1;
            }
        }
        due("rule 11, whether all methods end", begun, -1);
    }

    private static void sizes() {
        List<Class<?>> all = new ArrayList<>(List.of(BoilerRoll.class.getDeclaredClasses()));
        all.add(BoilerRoll.class);
        due("rule 11, whether " + all.size() + " classes are few", all.size() <= MOST_CLASSES, true);
        for (Class<?> one : all) {
            int fields = 0;
            for (Field field : one.getDeclaredFields()) {
                boolean fixed = Modifier.isStatic(field.getModifiers());
                fields += fixed ? 0 : 1;
                due("rule 5, whether " + field + " is final", !fixed || Modifier.isFinal(field.getModifiers()), true);
            }
            due("rule 11, whether " + fields + " fields of " + one + " are few", fields <= MOST_FIELDS, true);
            for (Method method : one.getDeclaredMethods()) {
                due("rule 11, whether " + method + " takes few", method.getParameterCount() <= MOST_PARAMETERS, true);
            }
            boolean inside = one == BoilerRoll.class || !Modifier.isPublic(one.getModifiers());
            due("rule 2, whether " + one + " is hidden", inside, true);
        }
    }

    public static void main(String[] args) throws IOException {
        List<String> found = new ArrayList<>();
        files(new File("src/main"), found);
        due("files", found, List.of(HOME + "/BoilerRoll.java"));
        String source = Files.readString(new File(HOME, "BoilerRoll.java").toPath(), StandardCharsets.UTF_8);
        due("rule 4, whether all signs are 1 to 127", source.chars().allMatch(sign -> sign >= 1 && sign <= 127), true);
        words(withoutComments(source));
        lengths(source);
        sizes();
        System.out.println(wrong == 0 ? "all is as due" : wrong + " are not as due");
        if (wrong != 0) {
            System.exit(1);
        }
    }
}
