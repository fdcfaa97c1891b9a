import java.io.IOException;
import java.lang.reflect.Constructor;
import java.lang.reflect.Field;
import java.lang.reflect.Member;
import java.lang.reflect.Method;
import java.lang.reflect.Modifier;
import java.nio.file.Files;
import java.nio.file.Path;
import java.util.Arrays;
import java.util.List;
import java.util.Set;
import java.util.TreeSet;
import java.util.regex.Matcher;
import java.util.regex.Pattern;

/** The public face, and rules of LANGUAGE.md that can be looked up in the class and in its source. */
final class RulesTest {
    private static final Check check = new Check("RulesTest");
    private static final Class<?> CLASS = ExternalSort.class;
    private static final Path FILE = Path.of("src/main/java/ExternalSort.java");
    private static final int MOST_CALLS_DEEP = 8;
    private static final int MOST_LINES = 60;
    /** Of what LANGUAGE.md allows: what the class needs. */
    private static final Set<String> LIBRARY = Set.of("java.lang.Math.max", "java.lang.Math.min");
    private static final Set<String> TYPES = Set.of("int", "boolean", "int[]", "Disk", "Inputs", "Joiner",
        "LoserTree", "Output", "Sorter", "Tally");
    private static final Set<String> FACE = new TreeSet<>(List.of(
        "int append(int, int, int)", "int drop(int)", "int sort(int, int, int, int)",
        "int distinct(int, int, int)", "int join(int, int, int, int)", "int size(int)", "int key(int, int)",
        "int tag(int, int)", "int told(int)", "int run(int)"));
    private static final List<String> FORBIDDEN = List.of(
        "\\bthrows?\\b", "\\btry\\b", "\\bcatch\\b", "\\bfinally\\b", "\\bsynchronized\\b", "\\bassert\\b",
        "\\bimport\\b", "\\bpackage\\b", "->", "::", "\\bjava\\.", "\\bprotected\\b", "Exact\\b", "\\bvar\\b",
        "\\bvolatile\\b", "\\bnative\\b", "@", "\\bObject\\b", "\\bThread\\b", "\\bstatic\\s*\\{");

    public static void main(String[] args) throws IOException {
        face();
        faceIsTheDocuments();
        membersAreHidden();
        classesInside();
        source();
        tree();
        check.end();
    }

    private static void face() {
        check.that("not public and final", Modifier.isPublic(CLASS.getModifiers()) && Modifier.isFinal(CLASS.getModifiers()));
        Set<String> methods = new TreeSet<>();
        for (Method method : CLASS.getDeclaredMethods()) {
            if (Modifier.isPublic(method.getModifiers())) {
                check.that(method + " is static", !Modifier.isStatic(method.getModifiers()));
                methods.add(method.getReturnType() + " " + method.getName() + "(" + types(method.getParameterTypes()) + ")");
            } else {
                hasNameOfItsOwn(method);
            }
        }
        check.that("public methods are " + methods, methods.equals(FACE));
        Constructor<?>[] makers = CLASS.getDeclaredConstructors();
        check.that("constructors are " + Arrays.toString(makers), makers.length == 1
            && Modifier.isPublic(makers[0].getModifiers()) && types(makers[0].getParameterTypes()).equals("int, int"));
        check.that("public fields are " + Arrays.toString(CLASS.getFields()),
            CLASS.getFields().length == 1 && CLASS.getFields()[0].getName().equals("NONE"));
    }

    private static void faceIsTheDocuments() throws IOException {
        String document = Files.readString(Path.of("../shared/DOC.md"));
        int from = document.indexOf("public final class ExternalSort {");
        String face = document.substring(Math.max(0, from), Math.max(0, document.indexOf("```", from)));
        Set<String> methods = new TreeSet<>();
        Matcher method = Pattern.compile("public (int \\w+\\(.*?\\));").matcher(face);
        while (method.find()) {
            methods.add(method.group(1).replaceAll("int \\w+(?=[,)])", "int"));
        }
        check.that("the document's methods are " + methods, methods.equals(FACE));
        check.that("the document's constructor is another", face.contains("public ExternalSort(int pages, int records);"));
        check.that("the document has other members", face.split("public ", -1).length == FACE.size() + 4);
        check.that("the document's constant is another",
            face.contains("public static final int NONE = " + ExternalSort.NONE + ";"));
    }

    private static void hasNameOfItsOwn(Method method) {
        boolean same = FACE.stream().anyMatch(face -> face.contains(" " + method.getName() + "("));
        check.that(method + " bears the name of a public one", !same);
    }

    private static String types(Class<?>[] types) {
        return String.join(", ", Arrays.stream(types).map(Class::getName).toList());
    }

    private static void membersAreHidden() {
        for (Member[] members : new Member[][] {CLASS.getDeclaredFields(), CLASS.getDeclaredMethods()}) {
            for (Member member : members) {
                int how = member.getModifiers();
                check.that(member + " can be seen", Modifier.isPublic(how) || Modifier.isPrivate(how));
            }
        }
    }

    private static void classesInside() {
        Class<?>[] inside = CLASS.getDeclaredClasses();
        check.that("too many classes", inside.length < 12);
        looksOf(CLASS);
        for (Class<?> one : inside) {
            int how = one.getModifiers();
            check.that(one + " is not static", Modifier.isStatic(how));
            check.that(one + " can be seen", !Modifier.isPublic(how) && !Modifier.isProtected(how));
            check.that(one + " has classes inside", one.getDeclaredClasses().length == 0);
            looksOf(one);
            for (Method method : one.getDeclaredMethods()) {
                hasNameOfItsOwn(method);
            }
        }
    }

    private static void looksOf(Class<?> one) {
        int fields = 0;
        for (Field field : one.getDeclaredFields()) {
            boolean isStatic = Modifier.isStatic(field.getModifiers());
            fields += isStatic ? 0 : 1;
            check.that(field + " is static and not final", !isStatic || Modifier.isFinal(field.getModifiers()));
        }
        check.that(one + " has " + fields + " fields", fields <= 20);
        for (Method method : one.getDeclaredMethods()) {
            check.that(method + " takes too many", method.getParameterCount() <= 7);
        }
    }

    private static void source() throws IOException {
        String text = Files.readString(FILE);
        check.that("a sign beyond 127", text.chars().allMatch(sign -> sign < 128));
        String code = text.replaceAll("(?s)/\\*.*?\\*/", " ").replaceAll("//[^\\n]*", " ");
        for (String word : FORBIDDEN) {
            Matcher found = Pattern.compile(word).matcher(code);
            check.that("the source has " + word, !found.find());
        }
    }

    /** What javac tells of the source, rule by rule. */
    private static void tree() throws IOException {
        Source source = new Source(FILE);
        none("2: classes in methods", source.classesInMethods);
        for (String type : source.types) {
            check.that("3: the type " + type, TYPES.contains(type.replace("ExternalSort.", "")));
        }
        for (String call : source.libraryCalls) {
            check.that("4: a call of " + call, LIBRARY.contains(call));
        }
        none("7: divisors that are not tested", source.divisorsNotTested);
        none("9: loops whose end does not stand in their own lines", source.loopsWithoutBound);
        for (String method : source.calls.keySet()) {
            check.that("8: recursion under " + method, source.depthFrom(method) > 0);
        }
        for (String method : source.publicMethods) {
            int depth = source.depthFrom(method);
            check.that("11: calls go " + depth + " deep in " + method, depth <= MOST_CALLS_DEEP);
        }
        check.that("no public method is found", source.publicMethods.size() == FACE.size() + 1);
        source.lines.forEach((method, lines) ->
            check.that("11: " + method + " has " + lines + " lines", lines <= MOST_LINES));
        none("12: objects that calls make", source.madeByCalls);
        none("12: objects handed out", source.handedOut);
    }

    private static void none(String rule, List<String> found) {
        check.that(rule + ": " + found, found.isEmpty());
    }
}
