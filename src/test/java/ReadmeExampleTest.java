import java.io.IOException;
import java.net.URL;
import java.net.URLClassLoader;
import java.nio.file.Files;
import java.nio.file.Path;
import java.util.ArrayList;
import java.util.List;
import java.util.regex.Matcher;
import java.util.regex.Pattern;
import javax.tools.ToolProvider;

/** README's example, compiled and run as it stands there: each answer that it tells is due. */
final class ReadmeExampleTest {
    private static final Pattern EXAMPLE = Pattern.compile("(?s)```java\n(.*?)```");
    private static final Pattern CALL = Pattern.compile("(?m)^(x\\.\\w+\\([^)]*\\)); +// (-?\\d+|[A-Z]+): .+$");
    private static final int MOST_CALLS = 512;

    public static void main(String[] args) throws Exception {
        String example = example();
        Path folder = Files.createTempDirectory("readme");
        try {
            runs(folder, example);
        } finally {
            remove(folder);
        }
        Due.finish("ReadmeExampleTest");
    }

    private static String example() throws IOException {
        Matcher found = EXAMPLE.matcher(Files.readString(Path.of("README.md")));
        Due.due("README has an example", found.find() ? 1 : 0, 1);
        String example = found.group(1);
        Due.due("each call outside a loop tells its answer", CALL.matcher(example).results().count(),
                Pattern.compile("(?m)^x\\.").matcher(example).results().count());
        Due.due("README has one example alone", found.find() ? 1 : 0, 0);
        return example;
    }

    /** The answers are handed over by a row, as a class of another loader can't reach Due. */
    private static void runs(Path folder, String example) throws Exception {
        Path source = folder.resolve("Example.java");
        Files.writeString(source, "public final class Example {\n"
                + "public static void run(java.util.List<Object[]> answers) {\n" + handingOver(example) + "}\n}\n");
        String classes = System.getProperty("java.class.path");
        int failed = ToolProvider.getSystemJavaCompiler().run(null, null, null, "-cp", classes, "-d",
                folder.toString(), source.toString());
        Due.due("compiling README's example", failed, 0);
        if (failed != 0) {
            return;
        }
        List<Object[]> answers = new ArrayList<>();
        try (URLClassLoader loader = new URLClassLoader(new URL[] {folder.toUri().toURL()})) {
            loader.loadClass("Example").getMethod("run", List.class).invoke(null, answers);
        }
        for (Object[] answer : answers) {
            Due.due("README's " + answer[0], (Integer) answer[1], (Integer) answer[2]);
        }
        Due.due("README's answers", answers.size(), CALL.matcher(example).results().count());
        Due.due("README's example has no more calls than an object is for", calls(example) <= MOST_CALLS ? 1 : 0, 1);
    }

    private static String handingOver(String example) {
        return CALL.matcher(example).replaceAll(found -> "answers.add(new Object[] {\"" + found.group(1) + "\", "
                + found.group(1) + ", " + number(found.group(2)) + "});");
    }

    private static String number(String told) {
        return Character.isLetter(told.charAt(0)) ? "SceneShots." + told : told;
    }

    private static int calls(String example) {
        int letters = 0;
        for (Matcher text = Pattern.compile("\"([^\"]*)\"").matcher(example); text.find();) {
            letters += text.group(1).length();
        }
        return letters + (int) CALL.matcher(example).results().count();
    }

    private static void remove(Path folder) throws IOException {
        for (String name : new String[] {"Example.java", "Example.class"}) {
            Files.deleteIfExists(folder.resolve(name));
        }
        Files.delete(folder);
    }
}
