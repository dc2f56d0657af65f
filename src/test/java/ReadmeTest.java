import java.lang.reflect.Method;
import java.lang.reflect.Modifier;
import java.nio.file.Files;
import java.nio.file.Path;
import java.util.regex.Matcher;
import java.util.regex.Pattern;

/** README.md: its example answers what it says, its table names each call, its list each test. */
public final class ReadmeTest {
    private static final Pattern TEXT = Pattern.compile("\"([^\"]+)\"\\.toCharArray\\(\\)");
    private static final Pattern CALL = Pattern.compile("x\\.(\\w+)\\(([-0-9, ]*)\\);\\s*// (-?\\d+):");

    public static void main(String[] args) throws Exception {
        String page = Files.readString(Path.of("README.md"));
        example(page);
        calls(page);
        tests(page);
        Check.end("ReadmeTest");
    }

    private static void example(String page) throws Exception {
        TrueOneWay x = new TrueOneWay();
        int looked = 0;
        for (String line : page.split("\n")) {
            Matcher text = TEXT.matcher(line);
            if (text.find()) {
                for (char c : text.group(1).toCharArray()) {
                    x.letter(c);
                }
            }
            Matcher call = CALL.matcher(line);
            if (call.find()) {
                looked++;
                Check.due(line, Integer.parseInt(call.group(3)), answer(x, call.group(1), call.group(2)));
            }
        }
        Check.isTrue("an example of some calls", looked >= 5);
    }

    private static int answer(TrueOneWay x, String name, String numbers) throws Exception {
        String[] parts = numbers.isEmpty() ? new String[0] : numbers.split(", *");
        Class<?>[] types = new Class<?>[parts.length];
        Object[] given = new Object[parts.length];
        for (int i = 0; i < parts.length; i++) {
            types[i] = int.class;
            given[i] = Integer.valueOf(parts[i]);
        }
        return (Integer) TrueOneWay.class.getMethod(name, types).invoke(x, given);
    }

    private static void calls(String page) {
        for (Method m : TrueOneWay.class.getDeclaredMethods()) {
            if (Modifier.isPublic(m.getModifiers())) {
                String numbers = m.getParameterCount() == 0 ? "" : "\\w+(, \\w+){" + (m.getParameterCount() - 1) + "}";
                Pattern row = Pattern.compile("(?m)^\\|.*`" + m.getName() + "\\(" + numbers + "\\)`.*\\|$");
                Check.isTrue("told in the table: " + m.getName(), row.matcher(page).find());
            }
        }
    }

    private static void tests(String page) throws Exception {
        try (var files = Files.list(Path.of("src/test/java"))) {
            for (Path file : files.sorted().toList()) {
                String name = file.getFileName().toString().replace(".java", "");
                if (!name.equals("Check")) {
                    Check.isTrue("told of: " + name, page.contains("`" + name + "`"));
                }
            }
        }
    }
}
