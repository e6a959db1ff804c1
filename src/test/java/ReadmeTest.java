import java.nio.charset.StandardCharsets;
import java.nio.file.Files;
import java.nio.file.Path;
import java.util.ArrayList;
import java.util.List;
import java.util.Set;
import java.util.TreeSet;
import java.util.regex.Matcher;
import java.util.regex.Pattern;
import java.util.stream.Stream;

/** README.md tells what is so: its calls are answered as told, and its table has the tests that there are. */
public final class ReadmeTest {
    private static final Due d = new Due("ReadmeTest");

    public static void main(String[] args) throws Exception {
        String page = new String(Files.readAllBytes(Path.of("README.md")), StandardCharsets.UTF_8);
        calls(page);
        tests(page);
        files(page);
        d.end();
    }

    /** Each line of the page's program but the first: a call on sink, whose answer stands ahead of the second colon. */
    static void calls(String page) throws Exception {
        Matcher program = Pattern.compile("(?s)```java\n(.*?)```").matcher(page);
        d.due("there is a program", program.find() ? 1 : 0, 1);
        String[] lines = program.group(1).split("\n");
        d.due("its first line: " + lines[0], lines[0].equals("QuarterTurn sink = new QuarterTurn();") ? 1 : 0, 1);
        QuarterTurn sink = new QuarterTurn();
        for (int i = 1; i < lines.length; i++) {
            Matcher line = Pattern.compile("sink\\.(\\w+)\\((.*)\\); +// ([-\\w]+): .+").matcher(lines[i]);
            if (line.matches()) d.due(lines[i], answer(sink, line.group(1), line.group(2)), told(line.group(3)));
            else d.due("can be read: " + lines[i], 0, 1);
        }
        d.due("some lines", lines.length > 5 ? 1 : 0, 1);
    }

    private static int answer(QuarterTurn sink, String call, String inputs) throws Exception {
        List<Object> values = new ArrayList<>();
        List<Class<?>> types = new ArrayList<>();
        for (String input : inputs.isEmpty() ? new String[0] : inputs.split(", ")) {
            values.add(Integer.decode(input));
            types.add(int.class);
        }
        return (Integer) QuarterTurn.class.getMethod(call, types.toArray(new Class<?>[0])).invoke(sink, values.toArray());
    }

    private static int told(String answer) throws Exception {
        boolean constant = Character.isUpperCase(answer.charAt(0));
        return constant ? QuarterTurn.class.getField(answer).getInt(null) : Integer.parseInt(answer);
    }

    static void tests(String page) throws Exception {
        Set<String> there = new TreeSet<>(), named = new TreeSet<>();
        try (Stream<Path> files = Files.list(Path.of("src/test/java"))) {
            files.map(file -> file.getFileName().toString().replace(".java", ""))
                .filter(name -> name.endsWith("Test")).forEach(there::add);
        }
        Matcher row = Pattern.compile("\n\\| `(\\w+)` \\|").matcher(page);
        while (row.find()) named.add(row.group(1));
        d.due("tests named " + named + ", there are " + there, named.equals(there) ? 1 : 0, 1);
    }

    /** Whatever the page names by its path is there. */
    static void files(String page) {
        Matcher path = Pattern.compile("`((?:\\.\\./)?[\\w.]+/[\\w./]*\\w)`|\n(\\.ci/run)\n").matcher(page);
        int found = 0;
        while (path.find()) {
            String name = path.group(1) != null ? path.group(1) : path.group(2);
            d.due("there is " + name, Files.exists(Path.of(name)) ? 1 : 0, 1);
            found++;
        }
        d.due("some files are named", found > 4 ? 1 : 0, 1);
    }
}
