import java.io.ByteArrayOutputStream;
import java.io.IOException;
import java.io.PrintStream;
import java.lang.reflect.Method;
import java.lang.reflect.Modifier;
import java.nio.file.Files;
import java.nio.file.Path;
import java.util.ArrayList;
import java.util.Arrays;
import java.util.List;
import java.util.Map;
import java.util.TreeMap;
import java.util.regex.MatchResult;
import java.util.regex.Pattern;

/** README.md tells the truth: its example prints what it says, and its list of exceptions is that of the face. */
public final class ReadmeTest {
    private static final Pattern QUOTED = Pattern.compile("`(\\w+)`");

    private ReadmeTest() {
    }

    public static void main(String[] args) throws IOException {
        Check check = new Check();
        String page = Files.readString(Path.of("README.md"));
        check.same("the example", Files.readString(Path.of("src/test/java/Example.java")), block(page, "java"));
        check.same("what the example prints", printedByExample(), block(page, "text"));
        check.same("what a call throws", thrownByFace().toString(), thrownByPage(page).toString());
        check.close();
    }

    private static String block(String page, String kind) {
        String opening = "```" + kind + "\n";
        int start = page.indexOf(opening);
        int end = page.indexOf("```", start + opening.length());
        return start < 0 || end < 0 ? "" : page.substring(start + opening.length(), end);
    }

    private static String printedByExample() {
        PrintStream screen = System.out;
        ByteArrayOutputStream printed = new ByteArrayOutputStream();
        System.setOut(new PrintStream(printed, true));
        try {
            Example.main(new String[0]);
        } finally {
            System.setOut(screen);
        }
        return printed.toString().replace(System.lineSeparator(), "\n");
    }

    private static Map<String, List<String>> thrownByFace() {
        Map<String, List<String>> thrown = new TreeMap<>();
        for (Method method : HopOast.class.getDeclaredMethods()) {
            if (Modifier.isPublic(method.getModifiers()) && method.getExceptionTypes().length > 0) {
                thrown.put(method.getName(),
                        Arrays.stream(method.getExceptionTypes()).map(Class::getSimpleName).toList());
            }
        }
        return thrown;
    }

    /** The rows of the table under "What a call throws": the calls, then their exceptions in order. */
    private static Map<String, List<String>> thrownByPage(String page) {
        Map<String, List<String>> thrown = new TreeMap<>();
        int start = page.indexOf("## What a call throws");
        int end = page.indexOf("\n## ", start + 1);
        for (String line : page.substring(start, end).split("\n")) {
            String[] cells = line.split("\\|");
            if (cells.length == 3) {
                List<String> exceptions = new ArrayList<>(quoted(cells[2]));
                exceptions.removeIf(name -> !name.endsWith("Exception"));
                quoted(cells[1]).forEach(call -> thrown.put(call, exceptions));
            }
        }
        return thrown;
    }

    private static List<String> quoted(String cell) {
        return QUOTED.matcher(cell).results().map((MatchResult found) -> found.group(1)).toList();
    }
}
