import java.io.IOException;
import java.lang.reflect.Method;
import java.lang.reflect.Modifier;
import java.nio.file.Files;
import java.nio.file.Path;
import java.util.ArrayList;
import java.util.List;
import java.util.Set;
import java.util.TreeSet;
import java.util.regex.Matcher;
import java.util.regex.Pattern;
import java.util.stream.Stream;

/** README.md is true: each call that it shows answers as it says, no call is left out, its table has the tests. */
public final class ReadmeTest {
    private static final Pattern MADE = Pattern.compile("EchoSeats x = new EchoSeats\\(\\);");
    private static final Pattern TEXT = Pattern.compile("(?:String )?text = \"([^\"]*)\";");
    private static final String TYPED = "for (int n = 0; n < text.length(); n++) x.type(text.charAt(n));";
    private static final Pattern CALL = Pattern.compile("x\\.(\\w+)\\(([-0-9, ]*)\\); +// (-?[0-9]+|[A-Z]+): .+");

    private static EchoSeats x;
    private static String text = "";
    private static final Set<String> SHOWN = new TreeSet<>();

    private static List<String> shownLines(List<String> page) {
        List<String> lines = new ArrayList<>();
        boolean inside = false;
        for (String line : page) {
            if (line.startsWith("```")) {
                inside = line.equals("```java");
            } else if (inside) {
                lines.add(line);
            }
        }
        return lines;
    }

    private static int answerTold(String words) {
        return switch (words) {
            case "BAD" -> EchoSeats.BAD;
            case "STATE" -> EchoSeats.STATE;
            case "FULL" -> EchoSeats.FULL;
            case "NONE" -> EchoSeats.NONE;
            case "NO" -> EchoSeats.NO;
            default -> Integer.parseInt(words);
        };
    }

    private static int call(String name, String numbers) throws ReflectiveOperationException {
        String[] told = numbers.isBlank() ? new String[0] : numbers.split(", ");
        Object[] given = new Object[told.length];
        Class<?>[] kinds = new Class<?>[told.length];
        for (int n = 0; n < told.length; n++) {
            given[n] = Integer.valueOf(told[n]);
            kinds[n] = int.class;
        }
        return (Integer) EchoSeats.class.getMethod(name, kinds).invoke(x, given);
    }

    private static void run(String line) throws ReflectiveOperationException {
        Matcher call = CALL.matcher(line);
        Matcher told = TEXT.matcher(line);
        if (MADE.matcher(line).matches()) {
            x = new EchoSeats();
        } else if (told.matches()) {
            text = told.group(1);
        } else if (line.equals(TYPED)) {
            Due.types(x, text);
            SHOWN.add("type");
        } else if (call.matches()) {
            Due.is("README.md: " + line, call(call.group(1), call.group(2)), answerTold(call.group(3)));
            SHOWN.add(call.group(1));
        } else {
            Due.holds("a line of README.md that can be run: " + line, false);
        }
    }

    private static void showsEveryCall() {
        for (Method m : EchoSeats.class.getDeclaredMethods()) {
            if (Modifier.isPublic(m.getModifiers())) Due.holds("README.md shows " + m.getName(), SHOWN.contains(m.getName()));
        }
    }

    private static void tableHasTheTests(List<String> page) throws IOException {
        Set<String> inTable = new TreeSet<>();
        for (String line : page) {
            Matcher row = Pattern.compile("\\| (\\w+Test) \\| .* \\|").matcher(line);
            if (row.matches()) inTable.add(row.group(1));
        }
        Set<String> found = new TreeSet<>();
        try (Stream<Path> files = Files.list(Path.of("src/test/java"))) {
            files.map(file -> file.getFileName().toString()).filter(name -> name.endsWith("Test.java"))
                    .forEach(name -> found.add(name.substring(0, name.length() - ".java".length())));
        }
        Due.holds("README.md's table " + inTable + " has the tests " + found, inTable.equals(found));
    }

    public static void main(String[] args) throws Exception {
        List<String> page = Files.readAllLines(Path.of("README.md"));
        for (String line : shownLines(page)) run(line);
        showsEveryCall();
        tableHasTheTests(page);
        Due.end();
    }
}
