import java.io.File;
import java.lang.reflect.Method;
import java.lang.reflect.Modifier;
import java.net.URL;
import java.net.URLClassLoader;
import java.nio.file.Files;
import java.nio.file.Path;
import java.util.ArrayList;
import java.util.List;
import java.util.Set;
import java.util.TreeSet;
import java.util.regex.Matcher;
import java.util.regex.Pattern;
import javax.tools.ToolProvider;

/** README.md's example is compiled from README.md itself, and each answer that it shows is looked at. */
public final class ReadmeTest {
    private static final Pattern BLOCK = Pattern.compile("```java\n(.*?)```", Pattern.DOTALL);
    private static final Pattern CALL =
        Pattern.compile("(?:long (\\w+) = )?(poll\\.(\\w+)\\(.*?\\));(?: +// (.*))?");
    private static final Pattern ANSWER =
        Pattern.compile("(?:throws (\\w+)|(-?\\d+L?|true|false|OpenPoll\\.NONE))(?:: .*)?");

    private ReadmeTest() {
    }

    public static void main(String[] args) throws Exception {
        String readme = Files.readString(Path.of("README.md")).replace("\r\n", "\n");
        List<String> blocks = new ArrayList<>();
        Matcher block = BLOCK.matcher(readme);
        while (block.find()) {
            blocks.add(block.group(1));
        }
        Check.equal("examples in README.md", blocks.size(), 2);
        namesEachMethod(readme, String.join("", blocks));
        namesEachTest(readme);
        run(source(blocks));
        Check.end();
    }

    private static void namesEachMethod(String readme, String example) {
        for (Method method : OpenPoll.class.getDeclaredMethods()) {
            if (Modifier.isPublic(method.getModifiers())) {
                String name = method.getName() + "(";
                Check.isTrue("README.md explains " + name, readme.contains("`" + name));
                Check.isTrue("README.md's example calls " + name, example.contains("poll." + name));
            }
        }
    }

    private static void namesEachTest(String readme) {
        Set<String> there = new TreeSet<>();
        for (String file : new File("src/test/java").list()) {
            if (file.endsWith("Test.java")) {
                there.add(file.substring(0, file.length() - ".java".length()));
            }
        }
        Set<String> named = new TreeSet<>();
        Matcher test = Pattern.compile("`(\\w+Test)`").matcher(readme);
        while (test.find()) {
            named.add(test.group(1));
        }
        Check.equal("the tests that README.md names", named, there);
    }

    // the first example has to run as it stands; with the second one, which is refused calls, the answers are due
    private static String source(List<String> blocks) {
        StringBuilder text = new StringBuilder("public final class ReadmeExample {\n");
        text.append("static void asItStands() {\n").append(blocks.get(0)).append("}\n");
        text.append("public static void main(String[] args) {\nasItStands();\n");
        for (String line : String.join("", blocks).split("\n")) {
            text.append(looking(line)).append('\n');
        }
        return text.append("Check.end();\n}\n}\n").toString();
    }

    private static String looking(String line) {
        Matcher call = CALL.matcher(line);
        if (!call.matches()) {
            Check.isFalse("README.md's line can't be looked at: " + line, line.startsWith("poll."));
            return line;
        }
        String told = call.group(4) == null ? "" : call.group(4);
        Matcher answer = ANSWER.matcher(told);
        if (!answer.matches()) {
            Check.isTrue("README.md tells the answer of " + line, call.group(1) != null || isSilent(call.group(3)));
            return line;
        }
        String what = "Check.equal(\"README.md: " + call.group(2) + "\", ";
        if (answer.group(1) != null) {
            return what + "Check.outcome(Check.silent(() -> " + call.group(2) + ")), \"throws." + answer.group(1)
                + "\");";
        }
        if (call.group(1) != null) {
            return line + "\n" + what + call.group(1) + ", " + answer.group(2) + ");";
        }
        return what + call.group(2) + ", " + answer.group(2) + ");";
    }

    private static boolean isSilent(String name) {
        for (Method method : OpenPoll.class.getDeclaredMethods()) {
            if (method.getName().equals(name)) {
                return method.getReturnType() == void.class;
            }
        }
        return false;
    }

    // the example is loaded with a Check of its own, which ends the program with exit code 1 if an answer is not due
    private static void run(String source) throws Exception {
        Path made = Files.createTempDirectory("readme");
        made.toFile().deleteOnExit();
        Path file = made.resolve("ReadmeExample.java");
        file.toFile().deleteOnExit();
        made.resolve("ReadmeExample.class").toFile().deleteOnExit();
        Files.writeString(file, source);
        String classes = System.getProperty("java.class.path");
        int refused = ToolProvider.getSystemJavaCompiler().run(null, null, null, "-cp", classes, "-d",
            made.toString(), file.toString());
        Check.equal("what the compiler says of README.md's example", refused, 0);
        if (refused == 0) {
            List<URL> places = new ArrayList<>();
            places.add(made.toUri().toURL());
            for (String place : classes.split(File.pathSeparator)) {
                places.add(Path.of(place).toUri().toURL());
            }
            try (URLClassLoader loader =
                new URLClassLoader(places.toArray(new URL[0]), ClassLoader.getPlatformClassLoader())) {
                loader.loadClass("ReadmeExample").getMethod("main", String[].class)
                    .invoke(null, (Object) new String[0]);
            }
        }
    }
}
