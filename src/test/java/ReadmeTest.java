import java.io.IOException;
import java.lang.reflect.Method;
import java.lang.reflect.Modifier;
import java.nio.file.DirectoryStream;
import java.nio.file.Files;
import java.nio.file.Path;
import java.util.Set;
import java.util.TreeSet;
import java.util.regex.Matcher;
import java.util.regex.Pattern;

/**
 * What README.md says is so: each call that it shows answers what it says there, each call of the face is
 * shown, and the tests and the classes inside are those that it lists.
 */
public final class ReadmeTest {
    private static final Pattern SHOWN = Pattern.compile("x\\.(\\w+)\\(([^)]*)\\);\\s*// (-?\\w+)(:.*)?");
    private static final Pattern TEXT = Pattern.compile("\"([^\"]*)\"");
    private static int wrong = 0;

    public static void main(String[] args) throws IOException, ReflectiveOperationException {
        String readme = Files.readString(Path.of("README.md"));
        usage(block(readme, "```java"));
        Set<String> tests = new TreeSet<>();
        try (DirectoryStream<Path> files = Files.newDirectoryStream(Path.of("src/test/java"), "*Test.java")) {
            for (Path f : files) tests.add(f.getFileName().toString().replace(".java", ""));
        }
        listed("tests", readme, "## How to run its tests", tests);
        Set<String> inside = new TreeSet<>();
        for (Class<?> c : QuayRopes.class.getDeclaredClasses()) inside.add(c.getSimpleName());
        listed("classes", readme, "## How it is built", inside);
        check(block(readme, "```sh").trim().equals("bash .ci/run"), "the tests are run in another way");
        check(Files.isExecutable(Path.of(".ci/run")), ".ci/run is no script that can be run");
        System.out.println(wrong == 0 ? "what README.md says is so" : wrong + " things are not as README.md says");
        if (wrong != 0) System.exit(1);
    }

    private static void check(boolean right, String what) {
        if (!right) {
            wrong++;
            System.out.println(what);
        }
    }

    private static String block(String readme, String begin) {
        int from = readme.indexOf(begin) + begin.length();
        return readme.substring(from, readme.indexOf("```", from));
    }

    private static void usage(String block) throws ReflectiveOperationException {
        QuayRopes x = new QuayRopes();
        Set<String> shown = new TreeSet<>();
        for (String line : block.trim().split("\n")) {
            if (line.isEmpty() || line.equals("QuayRopes x = new QuayRopes();")) continue;
            Matcher m = SHOWN.matcher(line);
            if (!m.matches()) {
                check(false, "no call with its answer: " + line);
                continue;
            }
            shown.add(m.group(1));
            String got = answer(x, m.group(1), m.group(2));
            check(got.equals(m.group(3).replace("NONE", "" + QuayRopes.NONE)), line + " (answered " + got + ")");
            if (m.group(1).equals("feed")) fedText(line, m.group(2));
        }
        for (Method m : QuayRopes.class.getDeclaredMethods()) {
            check(!Modifier.isPublic(m.getModifiers()) || shown.contains(m.getName()), m + " is not shown");
        }
    }

    private static String answer(QuayRopes x, String name, String numbers) throws ReflectiveOperationException {
        String[] parts = numbers.isEmpty() ? new String[0] : numbers.split(", ");
        Object[] given = new Object[parts.length];
        Class<?>[] types = new Class<?>[parts.length];
        for (int i = 0; i < parts.length; i++) {
            given[i] = Long.decode(parts[i]).intValue();
            types[i] = int.class;
        }
        return "" + QuayRopes.class.getMethod(name, types).invoke(x, given);
    }

    /** The text that stands behind a feed is the one that is fed. */
    private static void fedText(String line, String numbers) {
        StringBuilder fed = new StringBuilder();
        for (String n : numbers.split(", ")) {
            for (int shift = 24; shift >= 0; shift -= 8) fed.append((char) (Long.decode(n) >> shift & 255));
        }
        Matcher m = TEXT.matcher(line);
        check(m.find() && fed.toString().replace("\0", "").equals(m.group(1)), line + " (feeds '" + fed + "')");
    }

    /** The first column of the table behind a headline has these names in marks of code, each once, and no other. */
    private static void listed(String what, String readme, String headline, Set<String> due) {
        Set<String> names = new TreeSet<>();
        for (String line : readme.substring(readme.indexOf(headline)).split("\n")) {
            if (line.startsWith("## ") && !line.equals(headline)) break;
            if (!line.startsWith("| `")) continue;
            Matcher m = Pattern.compile("`(\\w+)`").matcher(line.split("\\|")[1]);
            while (m.find()) check(names.add(m.group(1)), what + " has twice " + m.group(1));
        }
        check(names.equals(due), "README.md has the " + what + " " + names + ", there are " + due);
    }
}
