import java.io.IOException;
import java.lang.reflect.InvocationTargetException;
import java.lang.reflect.Method;
import java.nio.charset.StandardCharsets;
import java.nio.file.Files;
import java.nio.file.Path;
import java.util.Arrays;
import java.util.List;
import java.util.TreeSet;
import java.util.regex.Matcher;
import java.util.regex.Pattern;
import java.util.stream.Collectors;
import java.util.stream.Stream;

/** README.md: the calls that it shows answer as it says; the command, the tests, the classes that it names are there. */
public final class ReadmeTests {
    static final Pattern CALL = Pattern.compile("x\\.(\\w+)\\((.*)\\); // (\\w+|-\\d+)(.*)");
    static final Pattern TEXT = Pattern.compile(": \"(.*)\"");
    static final TreeSet<String> shown = new TreeSet<>();
    static LaterLives x;
    static int wrong;

    static void check(boolean right, String what) {
        if (!right) {
            wrong++;
            System.out.println("README.md: " + what);
        }
    }

    static int number(String word) {
        switch (word) {
            case "NONE": case "LaterLives.NONE": return LaterLives.NONE;
            case "HIDDEN": case "LaterLives.HIDDEN": return LaterLives.HIDDEN;
            default: return Integer.decode(word);
        }
    }

    static List<Object> numbers(String words) {
        return Arrays.stream(words.split(", ")).filter(w -> !w.isEmpty()).map(w -> (Object) number(w))
            .collect(Collectors.toList());
    }

    static String answer(String name, List<Object> arguments) throws IllegalAccessException {
        for (Method m : LaterLives.class.getMethods()) {
            boolean ours = m.getDeclaringClass() == LaterLives.class;
            if (ours && m.getName().equals(name) && m.getParameterCount() == arguments.size()) {
                try {
                    return String.valueOf(m.invoke(x, arguments.toArray()));
                } catch (InvocationTargetException e) {
                    return e.getCause().getClass().getSimpleName();
                }
            }
        }
        return "no such call";
    }

    static String bytes(List<Object> arguments) {
        StringBuilder b = new StringBuilder();
        for (Object word : arguments) {
            for (int shift = 24; shift >= 0; shift -= 8) {
                int piece = (Integer) word >>> shift & 255;
                b.append(piece == 0 ? "" : String.valueOf((char) piece));
            }
        }
        return b.toString();
    }

    static void line(String line) throws IllegalAccessException {
        if (line.equals("LaterLives x = new LaterLives();")) {
            x = new LaterLives();
            return;
        }
        Matcher call = CALL.matcher(line);
        check(call.matches() && x != null, "no call with its answer: " + line);
        if (!call.matches() || x == null) {
            return;
        }
        List<Object> arguments = numbers(call.group(2));
        String said = call.group(3).equals("NONE") || call.group(3).equals("HIDDEN")
            ? String.valueOf(number(call.group(3))) : call.group(3);
        String got = answer(call.group(1), arguments);
        check(got.equals(said), line + " answers " + got);
        shown.add(call.group(1));
        if (call.group(1).equals("feed")) {
            Matcher text = TEXT.matcher(call.group(4));
            String fed = bytes(arguments);
            check(text.matches() && text.group(1).equals(fed), "feeds '" + fed + "': " + line);
        }
    }

    static void calls(String readme) throws IllegalAccessException {
        boolean inside = false;
        for (String line : readme.split("\n")) {
            if (line.startsWith("```")) {
                inside = line.equals("```java");
            } else if (inside) {
                line(line);
            }
        }
        for (Method m : LaterLives.class.getMethods()) {
            boolean ours = m.getDeclaringClass() == LaterLives.class;
            check(!ours || shown.contains(m.getName()), "shows no " + m.getName() + "()");
        }
    }

    static void names(String readme) throws IOException {
        check(readme.contains("\n    .ci/run\n") && Files.isExecutable(Path.of(".ci/run")), "the command that runs the tests");
        try (Stream<Path> files = Files.list(Path.of("src/test/java"))) {
            for (Path file : files.collect(Collectors.toList())) {
                String name = file.getFileName().toString().replace(".java", "");
                check(readme.contains("`" + name + "`"), "names no " + name);
            }
        }
        for (Class<?> c : LaterLives.class.getDeclaredClasses()) {
            check(readme.contains("`" + c.getSimpleName() + "`"), "names no class " + c.getSimpleName());
        }
    }

    public static void main(String[] arguments) throws IOException, IllegalAccessException {
        String readme = Files.readString(Path.of("README.md"), StandardCharsets.UTF_8);
        calls(readme);
        names(readme);
        System.out.println(wrong == 0 ? "README.md holds" : wrong + " of README.md don't hold");
        if (wrong != 0) {
            System.exit(1);
        }
    }
}
