import java.io.ByteArrayOutputStream;
import java.io.File;
import java.io.PrintStream;
import java.lang.reflect.Method;
import java.lang.reflect.Modifier;
import java.net.URL;
import java.net.URLClassLoader;
import java.nio.charset.StandardCharsets;
import java.nio.file.Files;
import java.nio.file.Path;
import java.util.ArrayList;
import java.util.List;
import java.util.regex.Matcher;
import java.util.regex.Pattern;

/** README.md's example prints what stands behind its calls, and its tables miss no call and no test. */
public final class ReadmeTest {
    private static final Pattern EXAMPLE = Pattern.compile("```java\n(public final class Example .*?)```", Pattern.DOTALL);
    private static final Pattern SAID = Pattern.compile("say\\(mill\\.(.*)\\); +// ([-\\w]+): ");
    private static final Pattern QUOTED = Pattern.compile("`(\\w+)`");

    public static void main(String[] args) throws Exception {
        Check check = new Check("ReadmeTest");
        String readme = Files.readString(Path.of("README.md"));
        Matcher example = EXAMPLE.matcher(readme);
        boolean found = example.find();
        check.due("the example stands there", found, true);
        if (found) {
            answers(check, example.group(1));
        }
        tables(check, readme);
        check.end();
    }

    private static void answers(Check check, String code) throws Exception {
        List<String> calls = new ArrayList<>();
        List<String> due = new ArrayList<>();
        Matcher said = SAID.matcher(code);
        while (said.find()) {
            calls.add(said.group(1));
            due.add(said.group(2));
        }
        String[] got = printed(check, code);
        check.due("how many answers are told", got.length, code.split("say\\(mill").length - 1);
        check.due("how many answers are due", due.size(), got.length);
        for (int i = 0; i < Math.min(due.size(), got.length); i++) {
            check.due("README " + calls.get(i) + " answered " + got[i] + ", due is " + due.get(i),
                got[i].equals(due.get(i)), true);
        }
    }

    private static String[] printed(Check check, String code) throws Exception {
        Path place = Files.createTempDirectory("readme");
        Path file = Files.writeString(place.resolve("Example.java"), code);
        String path = System.getProperty("java.class.path");
        Process javac = new ProcessBuilder("javac", "-cp", path, "-d", place.toString(), file.toString()).inheritIO().start();
        check.due("the example can't be compiled", javac.waitFor(), 0);
        PrintStream out = System.out;
        ByteArrayOutputStream caught = new ByteArrayOutputStream();
        try (URLClassLoader loader = new URLClassLoader(new URL[] {place.toUri().toURL()})) {
            System.setOut(new PrintStream(caught, true, StandardCharsets.UTF_8));
            loader.loadClass("Example").getMethod("main", String[].class).invoke(null, (Object) new String[0]);
        } finally {
            System.setOut(out);
            for (File made : place.toFile().listFiles()) {
                Files.delete(made.toPath());
            }
            Files.delete(place);
        }
        return caught.toString(StandardCharsets.UTF_8).split("\\R");
    }

    private static void tables(Check check, String readme) {
        List<String> told = new ArrayList<>();
        for (String line : readme.split("\n")) {
            Matcher quoted = QUOTED.matcher(line.startsWith("| `") ? line.substring(0, line.indexOf('|', 1)) : "");
            while (quoted.find()) {
                told.add(quoted.group(1));
            }
        }
        for (Method method : BlackMill.class.getDeclaredMethods()) {
            if (Modifier.isPublic(method.getModifiers())) {
                check.due("README's table has " + method.getName(), told.contains(method.getName()), true);
                told.remove(method.getName());
            }
        }
        for (String test : new File("src/test/java").list()) {
            if (test.endsWith("Test.java")) {
                check.due("README's table has " + test, told.remove(test.replace(".java", "")), true);
            }
        }
        check.due("README's tables have more: " + told, told.size(), 0);
    }
}
