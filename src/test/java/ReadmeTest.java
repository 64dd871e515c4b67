import java.nio.file.Files;
import java.nio.file.Path;
import java.util.HashMap;
import java.util.List;
import java.util.Map;
import java.util.Set;
import java.util.TreeSet;
import java.util.regex.Matcher;
import java.util.regex.Pattern;
import java.util.stream.Collectors;
import java.util.stream.Stream;

/** What README.md says of the class and of its tests. The arguments: the program's file, README.md, the tests' folder. */
final class ReadmeTest {
    private static final String NEW = "Detentionbureau bureau = new Detentionbureau();";
    /** A call with its answer, "int visit = bureau.visit(ship); // 0: its number"; appeal alone has none. */
    private static final Pattern ANSWERED = Pattern.compile(
            "(?:int (\\w+) = )?bureau\\.(\\w+)\\(([^()]*)\\);(?:\\s+// (-?\\d+|true|false)(?::.*)?)?");
    private static final Pattern REFUSED = Pattern.compile(
            "// bureau\\.(\\w+)\\(([^()]*)\\) would throw (\\w+) here: .*");

    private static final Check CHECK = new Check();
    private static final Map<String, String> NAMES = new HashMap<>();

    public static void main(String[] args) throws Exception {
        List<String> page = Files.readAllLines(Path.of(args[1]));
        runs(block(page));
        tests(page, Path.of(args[2]));
        CHECK.end();
    }

    private static List<String> block(List<String> page) {
        int begin = page.indexOf("```java") + 1;
        int length = page.subList(begin, page.size()).indexOf("```");
        CHECK.due("there is a run of calls", begin > 0 && length > 20, true);
        return page.subList(begin, begin + Math.max(length, 0));
    }

    private static void runs(List<String> block) {
        CHECK.due("the run begins with a new object", block.get(0).equals(NEW), true);
        Detentionbureau bureau = new Detentionbureau();
        for (String line : block.subList(1, block.size())) {
            Matcher answered = ANSWERED.matcher(line);
            Matcher refused = REFUSED.matcher(line);
            if (answered.matches()) {
                answered(bureau, line, answered);
            } else if (refused.matches()) {
                long got = Calls.answer(bureau, read(refused.group(1), refused.group(2)));
                CHECK.due(line, Calls.told(got).equals("throws." + refused.group(3)), true);
            } else {
                CHECK.due("a call that can be read: " + line, false, true);
            }
        }
    }

    private static void answered(Detentionbureau bureau, String line, Matcher call) {
        String told = call.group(4);
        long got = Calls.answer(bureau, read(call.group(2), call.group(3)));
        CHECK.due(line, got, told == null ? 0 : told.equals("true") ? 1 : told.equals("false") ? 0 : Long.parseLong(told));
        CHECK.due(line + " tells its answer", told == null, call.group(2).equals("appeal"));
        if (call.group(1) != null) {
            NAMES.put(call.group(1), Long.toString(got));
        }
    }

    private static int[] read(String name, String arguments) {
        String numbers = Stream.of(arguments.split(",")).map(word -> number(word.strip())).collect(Collectors.joining(","));
        return Calls.read(name + "(" + numbers + ")");
    }

    private static String number(String word) {
        String constant = "Detentionbureau.";
        try {
            return word.startsWith(constant)
                    ? "" + Detentionbureau.class.getField(word.substring(constant.length())).getInt(null)
                    : NAMES.getOrDefault(word, word);
        } catch (ReflectiveOperationException e) {
            throw new IllegalArgumentException(word + " is no constant of the face");
        }
    }

    private static void tests(List<String> page, Path folder) throws Exception {
        Set<String> told = new TreeSet<>();
        for (String line : page) {
            if (line.startsWith("| `")) {
                told.add(line.substring(3, line.indexOf('`', 3)));
            }
        }
        Set<String> there;
        try (Stream<Path> files = Files.list(folder)) {
            there = files.map(file -> file.getFileName().toString()).filter(name -> name.endsWith("Test.java"))
                    .map(name -> name.substring(0, name.length() - 5)).collect(Collectors.toCollection(TreeSet::new));
        }
        CHECK.due("the tests of the table, " + told + ", are those that are there, " + there, told.equals(there), true);
    }
}
