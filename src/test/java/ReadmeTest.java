import java.io.IOException;
import java.lang.reflect.Method;
import java.lang.reflect.Modifier;
import java.nio.file.Files;
import java.nio.file.Path;
import java.util.Arrays;
import java.util.List;
import java.util.regex.Matcher;
import java.util.regex.Pattern;
import java.util.stream.Collectors;
import java.util.stream.Stream;

/** README.md shows an example and commands that do as it says, and leaves no call and no test out. */
public final class ReadmeTest {
    private static final Path README = Path.of("README.md");
    private static final Path TESTS = Path.of("src/test/java");

    public static void main(String[] args) throws Exception {
        theExampleAnswersAsItSays();
        theExampleIsThatOfThePage();
        theCommandsDoWhatTheirCallsDo();
        everyCallIsNamed();
        everyTestIsNamed();
        Check.end("ReadmeTest");
    }

    private static void theExampleAnswersAsItSays() {
        BeamChart chart = new BeamChart();
        int light = chart.addLight(0, 0, 9, 8);  // column, row, range, period
        int ship = chart.addShip(2, 2, 5);       // column, row, draught
        int length = chart.steer(ship, 4, 4);    // 4 steps to the cell 4,4
        int sightings = chart.pass(4);           // in 4 minutes the light sights the ship once
        String text = "ship 40 6;steer 1>47;wait 3";
        for (int i = 0; i < text.length(); i++) {
            chart.feed(text.charAt(i));
        }
        int commands = chart.execute();          // 3 commands, which are one change
        int signs = chart.writeShip(1);          // the line is now 43d6>47~3
        int changes = chart.undo();              // 4 changes are left; the ship 1 is gone again
        Check.same("light", 0, () -> light);
        Check.same("ship", 0, () -> ship);
        Check.same("length", 4, () -> length);
        Check.same("sightings", 1, () -> sightings);
        Check.same("commands", 3, () -> commands);
        Check.same("line", "43d6>47~3", () -> Check.line(chart, signs));
        Check.same("changes", 4, () -> changes);
        Check.same("ships", 1, chart::shipCount);
    }

    private static void theExampleIsThatOfThePage() throws IOException {
        Matcher block = Pattern.compile("```java\n(.*?)```", Pattern.DOTALL).matcher(Files.readString(README));
        Check.yes("the page has an example", block.find());
        String here = Files.readString(TESTS.resolve("ReadmeTest.java"));
        Check.yes("the example is the one that is run here", here.contains(block.group(1).indent(8)));
    }

    /** Each row of the page's table: the command and its call make the same of equal charts. */
    private static void theCommandsDoWhatTheirCallsDo() throws Exception {
        Matcher row = Pattern.compile("\\| `([a-z]+ [^`]+)` \\| `([a-zA-Z]+)\\(([0-9, ]+)\\)` \\|")
            .matcher(Files.readString(README));
        int rows = 0;
        while (row.find()) {
            rows++;
            String command = row.group(1);
            boolean onAWreck = command.startsWith("salvage");
            String before = Check.portrait(chart(onAWreck));
            BeamChart byCall = chart(onAWreck);
            call(byCall, row.group(2), row.group(3).split(", "));
            String due = Check.portrait(byCall);
            Check.yes(command + " alters the chart", !due.equals(before));
            BeamChart byText = chart(onAWreck);
            Check.same(command, 1, () -> Check.execute(byText, command));
            Check.same(command + " does what its call does", due, () -> Check.portrait(byText));
        }
        int found = rows;
        Check.same("the rows of commands", 8, () -> found);
    }

    private static BeamChart chart(boolean withAWreck) {
        BeamChart chart = new BeamChart();
        chart.addLight(0, 0, 9, 8);
        chart.addShip(7, 7, 5);
        if (withAWreck) {
            chart.setDepth(7, 7, 1);
            chart.pass(1);
        }
        return chart;
    }

    private static void call(BeamChart chart, String name, String[] values) throws Exception {
        for (Method method : BeamChart.class.getDeclaredMethods()) {
            if (Modifier.isPublic(method.getModifiers()) && method.getName().equals(name)) {
                method.invoke(chart, Arrays.stream(values).map(Integer::valueOf).toArray());
            }
        }
    }

    private static void everyCallIsNamed() throws IOException {
        String page = Files.readString(README);
        for (Method method : BeamChart.class.getDeclaredMethods()) {
            if (Modifier.isPublic(method.getModifiers())) {
                Check.yes(method.getName() + " is named", page.contains("`" + method.getName() + "`"));
            }
        }
    }

    private static void everyTestIsNamed() throws IOException {
        String page = Files.readString(README);
        for (String name : testNames()) {
            Check.yes(name + " is named", page.contains("`" + name + "`"));
        }
    }

    private static List<String> testNames() throws IOException {
        try (Stream<Path> files = Files.list(TESTS)) {
            return files.map(file -> file.getFileName().toString()).filter(name -> name.endsWith("Test.java"))
                .map(name -> name.replace(".java", "")).collect(Collectors.toList());
        }
    }
}
