import java.lang.reflect.InvocationTargetException;
import java.lang.reflect.Method;
import java.nio.charset.StandardCharsets;
import java.nio.file.Files;
import java.nio.file.Path;
import java.util.ArrayList;
import java.util.List;
import java.util.regex.Matcher;
import java.util.regex.Pattern;

/** What README.md shows holds: each call in it is done, and its answer compared with what stands behind it. */
final class ReadmeTests {
    private static final String NEW_CIRCLE = "ParkingCircle circle = new ParkingCircle();";
    private static final Pattern BLOCK = Pattern.compile("```java\n(.*?)```", Pattern.DOTALL);
    private static final Pattern FED = Pattern.compile("feed\\(circle, \"(.*)\"\\);");
    private static final Pattern CALL = Pattern.compile("circle\\.(\\w+)\\(([^)]*)\\); *// (throws \\w+|[^:]*)(:.*)?");

    private ReadmeTests() {
    }

    static void all(Check check, String readme, String tests) {
        check.test("README.md: its function is the one here", c -> function(c, readme, tests));
        check.test("README.md: its calls answer what stands behind them", c -> calls(c, readme));
        check.test("README.md: every test class is named", c -> classes(c, readme, tests));
    }

    // This is the function that README.md shows.

    static void feed(ParkingCircle circle, String text) {
        circle.truncate(0);
        int[] fours = new int[5];
        for (int from = 0; from < text.length(); from += 20) {
            for (int i = 0; i < 20; i++) {
                int sign = from + i < text.length() ? text.charAt(from + i) : ' ';
                fours[i / 4] = fours[i / 4] << 8 | sign;
            }
            circle.feed(fours[0], fours[1], fours[2], fours[3], fours[4]);
        }
        circle.truncate(text.length());
    }

    private static String read(Path path) throws java.io.IOException {
        return Files.readString(path, StandardCharsets.US_ASCII);
    }

    private static List<String> blocks(String readme) throws java.io.IOException {
        List<String> blocks = new ArrayList<>();
        Matcher block = BLOCK.matcher(read(Path.of(readme)));
        while (block.find()) {
            blocks.add(block.group(1));
        }
        return blocks;
    }

    private static void function(Check check, String readme, String tests) throws java.io.IOException {
        String here = read(Path.of(tests, "ReadmeTests.java")).replaceAll("(?m)^ {4}", "");
        check.same("the function stands here", here.contains(blocks(readme).get(0)), true);
    }

    private static void calls(Check check, String readme) throws ReflectiveOperationException, java.io.IOException {
        ParkingCircle circle = new ParkingCircle();
        int done = 0;
        for (String line : blocks(readme).get(1).split("\n")) {
            Matcher fed = FED.matcher(line);
            Matcher call = CALL.matcher(line);
            if (fed.matches()) {
                feed(circle, fed.group(1));
            } else if (call.matches()) {
                check.same(line, answer(circle, call.group(1), call.group(2)), call.group(3).trim());
                done++;
            } else if (!line.isEmpty() && !line.startsWith("//") && !line.equals(NEW_CIRCLE)) {
                check.tell("this line is no call: " + line);
            }
        }
        check.same("some calls", done > 0, true);
    }

    private static String answer(ParkingCircle circle, String name, String parameters) throws ReflectiveOperationException {
        List<Object> numbers = new ArrayList<>();
        for (String parameter : parameters.isEmpty() ? new String[0] : parameters.split(", ")) {
            numbers.add(Integer.valueOf(parameter));
        }
        for (Method method : RandomRunTests.face()) {
            if (method.getName().equals(name)) {
                return answer(circle, method, numbers.toArray());
            }
        }
        return "no such call";
    }

    private static String answer(ParkingCircle circle, Method method, Object[] numbers) throws ReflectiveOperationException {
        try {
            return method.invoke(circle, numbers).toString();
        } catch (InvocationTargetException thrown) {
            return "throws " + thrown.getCause().getClass().getSimpleName();
        }
    }

    private static void classes(Check check, String readme, String tests) throws java.io.IOException {
        String told = read(Path.of(readme));
        try (var files = Files.list(Path.of(tests))) {
            for (Path file : files.sorted().toList()) {
                String name = file.getFileName().toString().replace(".java", "");
                if (name.endsWith("Tests") && !name.equals("AllTests") || name.endsWith("Edges")) {
                    check.same(name, told.contains("`" + name + "`"), true);
                }
            }
        }
    }
}
