import java.io.File;
import java.io.PrintWriter;
import java.io.StringWriter;
import java.net.URISyntaxException;
import java.util.ArrayList;
import java.util.HashMap;
import java.util.List;
import java.util.Map;
import java.util.Set;
import java.util.TreeSet;
import java.util.regex.Matcher;
import java.util.regex.Pattern;
import java.util.spi.ToolProvider;

/**
 * Rule 11 of ../shared/LANGUAGE.md: calls go at most eight deep. The longest way from each method of the
 * face down, the library's method at its end counted, by the calls that javap tells of the compiled classes.
 */
public final class DepthTest {
    private static final int MOST = 8;
    /** A way that comes back to itself would have no end. */
    private static final int NO_END = 20;

    private static final Pattern CLASS = Pattern.compile("^(?:\\w+ )*class (BoilerRoll[\\w$]*)");
    private static final Pattern METHOD = Pattern.compile("^  (?:[\\w$.\\[\\]]+ )*([\\w$]+)\\(.*\\);$");
    private static final Pattern CALL = Pattern.compile("// (?:Interface)?Method (\\S+):");

    private static final Map<String, Set<String>> CALLS = new HashMap<>();
    private static int wrong = 0;

    private static String disassembled() throws URISyntaxException {
        File home = new File(BoilerRoll.class.getProtectionDomain().getCodeSource().getLocation().toURI());
        List<String> words = new ArrayList<>(List.of("-c", "-p"));
        File[] files = home.listFiles();
        for (File file : files == null ? new File[0] : files) {
            if (file.getName().matches("BoilerRoll(\\$\\w+)?\\.class")) {
                words.add(file.getPath());
            }
        }
        StringWriter text = new StringWriter();
        PrintWriter out = new PrintWriter(text);
        ToolProvider.findFirst("javap").orElseThrow().run(out, out, words.toArray(new String[0]));
        out.flush();
        return text.toString();
    }

    private static void read(String text) {
        String owner = "";
        String method = "";
        for (String line : text.split("\r?\n")) {
            Matcher begins = CLASS.matcher(line);
            Matcher heads = METHOD.matcher(line);
            Matcher calls = CALL.matcher(line);
            if (begins.find()) {
                owner = begins.group(1);
            } else if (heads.find()) {
                boolean making = heads.group(1).equals(owner);
                method = owner + "." + (making ? "<init>" : heads.group(1));
                CALLS.putIfAbsent(method, new TreeSet<>());
            } else if (calls.find()) {
                String called = calls.group(1).replace("\"", "");
                CALLS.get(method).add(called.contains(".") ? called : owner + "." + called);
            }
        }
    }

    private static List<String> longest(String method, int depth) {
        List<String> below = new ArrayList<>();
        if (depth < NO_END) {
            for (String called : CALLS.getOrDefault(method, Set.of())) {
                List<String> way = longest(called, depth + 1);
                boolean ofObject = called.startsWith("java/lang/Object.");
                below = !ofObject && way.size() > below.size() ? way : below;
            }
        }
        List<String> way = new ArrayList<>(List.of(method));
        way.addAll(below);
        return way;
    }

    public static void main(String[] args) throws URISyntaxException {
        read(disassembled());
        int asked = 0;
        for (String method : new TreeSet<>(CALLS.keySet())) {
            if (method.startsWith("BoilerRoll.")) {
                asked++;
                List<String> way = longest(method, 1);
                if (way.size() > MOST) {
                    wrong++;
                    System.out.println("rule 11, " + way.size() + " deep: " + String.join(" > ", way));
                }
            }
        }
        if (asked < BoilerRoll.class.getDeclaredMethods().length || CALLS.size() < 2 * asked) {
            wrong++;
            System.out.println("javap told of " + asked + " methods of the face alone");
        }
        System.out.println(wrong == 0 ? "all is as due" : wrong + " are not as due");
        if (wrong != 0) {
            System.exit(1);
        }
    }
}
