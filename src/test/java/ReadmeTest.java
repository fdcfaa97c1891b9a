import java.io.IOException;
import java.lang.reflect.Method;
import java.nio.file.Files;
import java.nio.file.Path;
import java.util.ArrayList;
import java.util.Arrays;
import java.util.List;
import java.util.Set;
import java.util.TreeSet;
import java.util.regex.Matcher;
import java.util.regex.Pattern;
import java.util.stream.Stream;

/** README.md tells every method of the face and every test, and its examples answer as they say. */
final class ReadmeTest {
    private static final Check check = new Check("ReadmeTest");
    private static final Pattern BLOCK = Pattern.compile("(?s)```java\\n(.*?)```");
    private static final Pattern MAKING = Pattern.compile("ExternalSort x = new ExternalSort\\((-?\\d+), (-?\\d+)\\);");
    private static final Pattern CALL = Pattern.compile("x\\.(\\w+)\\(([-\\d, ]*)\\); +// (-?\\d+)(:.*)?");
    private static final Pattern METHOD_OF_FACE = Pattern.compile("public (int \\w+\\(.*?\\));");

    public static void main(String[] args) throws IOException, ReflectiveOperationException {
        String readme = Files.readString(Path.of("README.md"));
        List<String[]> calls = examples(readme);
        tellsTheFace(readme, Files.readString(Path.of("../shared/DOC.md")), calls);
        tellsTheTests(readme);
        check.end();
    }

    /** Makes every call of the examples; answers them as name and answer. */
    private static List<String[]> examples(String readme) throws ReflectiveOperationException {
        List<String[]> calls = new ArrayList<>();
        Matcher block = BLOCK.matcher(readme);
        while (block.find()) {
            Face x = null;
            for (String line : block.group(1).split("\n")) {
                Matcher making = MAKING.matcher(line);
                Matcher call = CALL.matcher(line);
                if (making.matches()) {
                    x = check.make(Integer.parseInt(making.group(1)), Integer.parseInt(making.group(2)));
                } else if (call.matches() && x != null) {
                    int answer = answerOf(x, call.group(1), call.group(2));
                    check.due("example: " + line.strip(), answer, Integer.parseInt(call.group(3)));
                    calls.add(new String[] {call.group(1), call.group(3)});
                } else {
                    check.that("not a call with its answer: " + line, false);
                }
            }
        }
        return calls;
    }

    private static int answerOf(Face x, String name, String numbers) throws ReflectiveOperationException {
        Object[] arguments = Arrays.stream(numbers.split(", ")).map(Integer::valueOf).toArray();
        Class<?>[] types = new Class<?>[arguments.length];
        Arrays.fill(types, int.class);
        Method method = Face.class.getMethod(name, types);
        return (int) method.invoke(x, arguments);
    }

    private static void tellsTheFace(String readme, String document, List<String[]> calls) {
        Set<String> methods = new TreeSet<>();
        Matcher method = METHOD_OF_FACE.matcher(document);
        while (method.find()) {
            String head = method.group(1);
            methods.add(head.substring("int ".length(), head.indexOf('(')));
            check.that("README.md has no row for " + head, Pattern.compile("(?m)^\\| `" + Pattern.quote(head)
                + "` \\| .+ \\| .+ \\|$").matcher(readme).find());
        }
        check.that("the document's face has " + methods, methods.size() == 10);
        for (String name : methods) {
            boolean isRefused = calls.stream().anyMatch(call -> call[0].equals(name) && isRefusal(name, call[1]));
            boolean isDone = calls.stream().anyMatch(call -> call[0].equals(name) && !isRefusal(name, call[1]));
            check.that("no example of " + name + " with an answer", isDone);
            check.that("no example of " + name + " that is refused", isRefused);
        }
        check.that("README.md does not tell how an object is made",
            readme.contains("`new ExternalSort(int pages, int records)`"));
        check.that("README.md does not tell NONE", readme.contains("`NONE` (it is " + ExternalSort.NONE + ")"));
        Face disk = check.make(1, 1);
        for (int what = 0; disk.told(what) != ExternalSort.NONE; what++) {
            check.that("README.md does not tell what told(" + what + ") is",
                Pattern.compile("(?m)^\\| " + what + " \\| .+ \\|$").matcher(readme).find());
        }
    }

    private static boolean isRefusal(String name, String answer) {
        boolean isZeroWhenRefused = name.equals("key") || name.equals("tag");
        return answer.startsWith("-") || isZeroWhenRefused && answer.equals("0");
    }

    private static void tellsTheTests(String readme) throws IOException {
        check.that("README.md does not tell how tests are run", readme.contains("\n    .ci/run\n"));
        try (Stream<Path> files = Files.list(Path.of("src/test/java"))) {
            for (String name : files.map(file -> file.getFileName().toString()).sorted().toList()) {
                if (name.endsWith("Test.java")) {
                    String test = name.substring(0, name.length() - ".java".length());
                    check.that("README.md has no row for " + test, readme.contains("\n| `" + test + "` | "));
                }
            }
        }
    }
}
