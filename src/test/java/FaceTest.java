import java.lang.reflect.Constructor;
import java.lang.reflect.Field;
import java.lang.reflect.Method;
import java.lang.reflect.Modifier;
import java.nio.file.Files;
import java.nio.file.Path;
import java.util.ArrayList;
import java.util.Arrays;
import java.util.Collections;
import java.util.List;
import java.util.regex.Matcher;
import java.util.regex.Pattern;

/** The face of the class is that of the document, and the file keeps to what LANGUAGE.md can be read for. */
public final class FaceTest {
    private static final Path DOCUMENT = Path.of("../shared/DOC.md");
    private static final Path SOURCE = Path.of("src/main/java/BeamChart.java");

    public static void main(String[] args) throws Exception {
        theMethodsAreThoseOfTheDocument();
        nothingElseIsOpen();
        staticFieldsAreFinal();
        noPrivateMethodHasAPublicName();
        theSourceKeepsToTheLanguage();
        eachPromiseHasAnEdgeTest();
        Check.end("FaceTest");
    }

    private static void theMethodsAreThoseOfTheDocument() throws Exception {
        Matcher block = Pattern.compile("```java\n(.*?)```", Pattern.DOTALL).matcher(Files.readString(DOCUMENT));
        Check.yes("the document has a face", block.find());
        List<String> due = new ArrayList<>();
        for (String line : block.group(1).split("\n")) {
            String text = line.trim();
            if (text.startsWith("public ") && text.endsWith(";") && !text.contains("BeamChart(")) {
                String plain = text.replaceAll("(int|char) [a-zA-Z]+(?=[,)])", "$1").replaceAll("[;]", "");
                due.add(plain.replace(", ", ","));
            }
        }
        List<String> found = new ArrayList<>();
        for (Method method : BeamChart.class.getDeclaredMethods()) {
            if (Modifier.isPublic(method.getModifiers())) {
                found.add(method.toString().replace("BeamChart.", "").replaceAll("java\\.(lang|util)\\.", "")
                    .replace(", ", ","));
            }
        }
        Collections.sort(due);
        Collections.sort(found);
        Check.same("the number of methods", 60, due::size);
        Check.same("the methods", due, () -> found);
    }

    private static void nothingElseIsOpen() {
        Check.same("public final class", Modifier.PUBLIC | Modifier.FINAL, BeamChart.class::getModifiers);
        Constructor<?>[] constructors = BeamChart.class.getDeclaredConstructors();
        Check.same("one constructor", 1, () -> constructors.length);
        Check.same("public BeamChart()", "public BeamChart()", () -> constructors[0].toString());
        for (Method method : BeamChart.class.getDeclaredMethods()) {
            int open = method.getModifiers() & (Modifier.PUBLIC | Modifier.PRIVATE);
            Check.yes(method + " is public or private", open != 0 || method.isSynthetic());
        }
        for (Field field : BeamChart.class.getDeclaredFields()) {
            Check.yes(field + " is private", Modifier.isPrivate(field.getModifiers()) || field.isSynthetic());
        }
        for (Class<?> inside : BeamChart.class.getDeclaredClasses()) {
            int modifiers = inside.getModifiers();
            Check.yes(inside + " is static and not public", Modifier.isStatic(modifiers)
                && !Modifier.isPublic(modifiers) && !Modifier.isProtected(modifiers));
        }
        Check.yes("at most twelve classes", BeamChart.class.getDeclaredClasses().length < 12);
    }

    private static void staticFieldsAreFinal() {
        List<Class<?>> classes = new ArrayList<>(Arrays.asList(BeamChart.class.getDeclaredClasses()));
        classes.add(BeamChart.class);
        for (Class<?> each : classes) {
            int own = 0;
            for (Field field : each.getDeclaredFields()) {
                boolean isStatic = Modifier.isStatic(field.getModifiers());
                Check.yes(field + " is final", !isStatic || Modifier.isFinal(field.getModifiers()));
                own += isStatic ? 0 : 1;
            }
            Check.yes(each + " has at most twenty fields", own <= 20);
        }
    }

    private static void noPrivateMethodHasAPublicName() {
        List<String> open = new ArrayList<>();
        for (Method method : BeamChart.class.getMethods()) {
            open.add(method.getName());
        }
        for (Method method : BeamChart.class.getDeclaredMethods()) {
            Check.yes(method + " has a name of its own",
                Modifier.isPublic(method.getModifiers()) || !open.contains(method.getName()));
        }
    }

    private static void theSourceKeepsToTheLanguage() throws Exception {
        String source = Files.readString(SOURCE);
        String code = source.replaceAll("(?s)/\\*.*?\\*/", "").replaceAll("//[^\n]*", "");
        for (String banned : new String[] {"->", "::", "catch", "finally", "synchronized", "assert", "Exact(",
            "System.out", "instanceof", "protected", "package ", "HashMap", "random", "nanoTime", "getMessage"}) {
            Check.yes("no " + banned, !code.contains(banned));
        }
        for (int i = 0; i < source.length(); i++) {
            Check.yes("only signs 1 to 127", source.charAt(i) < 128);
        }
        Check.same("imports", "import java.util.NoSuchElementException;", () -> imports(code));
        String[] lines = source.split("\n", -1);
        for (int line = 0; line < lines.length; line++) {
            Check.yes("a line stays short: " + lines[line], lines[line].length() <= 120);
            Check.yes("a method stays short: " + lines[line], blockLength(lines, line) <= 60);
        }
    }

    private static void eachPromiseHasAnEdgeTest() throws Exception {
        StringBuilder tests = new StringBuilder();
        for (String name : new String[] {"EdgesOfDepthsAndLightsTest", "EdgesOfShipsTest", "EdgesOfLogAndTextsTest"}) {
            tests.append(Files.readString(Path.of("src/test/java/" + name + ".java")));
        }
        Matcher promise = Pattern.compile("## Promise (\\d+): ").matcher(Files.readString(DOCUMENT));
        int last = 0;
        while (promise.find()) {
            last = Integer.parseInt(promise.group(1));
            Check.yes("promise " + last + " has an edge test",
                Pattern.compile("void promise" + last + "[A-Z]").matcher(tests).find());
        }
        int promises = last;
        Check.same("the last promise", 61, () -> promises);
    }

    /** The lines from a method's head to its closing brace, 0 for a line that is no head. */
    private static int blockLength(String[] lines, int head) {
        Matcher method = Pattern.compile("( {4}| {8})[a-z].*\\(.*[{)]").matcher(lines[head]);
        if (!method.matches()) {
            return 0;
        }
        int end = head;
        while (end < lines.length && !lines[end].equals(method.group(1) + "}")) {
            end++;
        }
        return end - head + 1;
    }

    private static String imports(String code) {
        StringBuilder found = new StringBuilder();
        for (String line : code.split("\n")) {
            if (line.startsWith("import ")) {
                found.append(line);
            }
        }
        return found.toString();
    }
}
