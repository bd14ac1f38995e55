import java.lang.reflect.Method;
import java.nio.file.Files;
import java.nio.file.Path;
import java.util.ArrayList;
import java.util.List;
import java.util.Map;
import java.util.Set;
import java.util.TreeMap;
import java.util.TreeSet;
import java.util.regex.Matcher;
import java.util.regex.Pattern;
import java.util.stream.Stream;

/** README.md's calls are made as they stand there, and what it says of findings and of tests is compared with these. */
public final class ReadmeTest {
    private static final Pattern BLOCK = Pattern.compile("```java\n(.*?)```", Pattern.DOTALL);
    private static final Pattern MAKING = Pattern.compile("AfterDesk (\\w+) = new AfterDesk\\(\\);");
    private static final Pattern CALL = Pattern.compile("(\\w+)\\.(\\w+)\\(([^)]*)\\); +// (-?\\d+)(?:: (\\S.*))?");
    private static final Pattern ROW = Pattern.compile("\\| (\\d) \\| ([A-Z]+) +\\| (-\\d+) \\| \\S.*\\|");
    private static final Map<String, Long> FINDINGS = Map.of("BEYOND", Due.BEYOND, "NONE", Due.NONE, "KIND", Due.KIND,
        "FULL", Due.FULL, "STATE", Due.STATE);

    private final String page;
    private final Set<Long> shown = new TreeSet<>();
    private int calls = 0;

    private ReadmeTest(String page) {
        this.page = page;
    }

    public static void main(String[] args) throws Exception {
        ReadmeTest test = new ReadmeTest(Files.readString(Path.of("README.md")));
        test.callsAnswerWhatItSays();
        test.findingsAreWhatItSays();
        test.filesAreWhatItSays();
        test.commandIsWhatItSays();
        Due.end();
    }

    private void callsAnswerWhatItSays() throws Exception {
        Matcher block = BLOCK.matcher(page);
        while (block.find()) {
            runBlock(block.group(1));
        }
        Due.holds("README.md shows a run of calls", calls >= 20);
    }

    private void runBlock(String block) throws Exception {
        Map<String, AfterDesk> desks = new TreeMap<>();
        for (String line : block.split("\n")) {
            Matcher making = MAKING.matcher(line);
            Matcher call = CALL.matcher(line);
            if (making.matches()) {
                desks.put(making.group(1), new AfterDesk());
            } else if (call.matches()) {
                Due.holds("README.md makes a desk ahead of: " + line, desks.containsKey(call.group(1)));
                make(desks.get(call.group(1)), call, line);
            } else {
                Due.holds("README.md tells the answer of: " + line, line.isEmpty() || line.startsWith("// "));
            }
        }
    }

    private void make(AfterDesk desk, Matcher call, String line) throws Exception {
        calls++;
        List<Class<?>> types = new ArrayList<>();
        List<Object> values = new ArrayList<>();
        for (String word : call.group(3).isEmpty() ? new String[0] : call.group(3).split(", ")) {
            boolean flag = word.equals("true") || word.equals("false");
            types.add(flag ? boolean.class : int.class);
            values.add(flag ? (Object) Boolean.valueOf(word) : (Object) Integer.valueOf(word));
        }
        Method method = AfterDesk.class.getMethod(call.group(2), types.toArray(new Class<?>[0]));
        long due = Long.parseLong(call.group(4));
        Due.is("README.md: " + line, (long) method.invoke(desk, values.toArray()), due);
        shown.add(due);
        String meaning = call.group(5) == null ? "" : call.group(5);
        for (Map.Entry<String, Long> finding : FINDINGS.entrySet()) {
            boolean named = meaning.matches(finding.getKey() + ",.*");
            Due.holds("README.md names the finding of: " + line, named == (due == finding.getValue()));
        }
    }

    private void findingsAreWhatItSays() {
        Matcher row = ROW.matcher(page);
        Map<String, Long> told = new TreeMap<>();
        while (row.find()) {
            long value = Long.parseLong(row.group(3));
            Due.is("README.md: k of " + row.group(2), Due.LOW - Integer.parseInt(row.group(1)), value);
            told.put(row.group(2), value);
        }
        Due.holds("README.md tells the findings and their values: " + told, told.equals(FINDINGS));
        Due.holds("README.md shows a call for each finding: " + shown, shown.containsAll(FINDINGS.values()));
    }

    private void filesAreWhatItSays() throws Exception {
        Set<String> files = new TreeSet<>();
        try (Stream<Path> list = Files.list(Path.of("src/test/java"))) {
            list.forEach(file -> files.add(file.getFileName().toString().replace(".java", "")));
        }
        for (String file : files) {
            Due.holds("README.md tells of " + file, page.contains("`" + file + "`"));
        }
        Matcher named = Pattern.compile("`(\\w+Test)`").matcher(page);
        while (named.find()) {
            Due.holds("README.md tells of a test that is there: " + named.group(1), files.contains(named.group(1)));
        }
        for (String path : List.of("src/main/java/AfterDesk.java", "../shared/DOC.md", "../shared/LANGUAGE.md",
                "../shared/tests")) {
            Due.holds("README.md names " + path, page.contains("`" + path + "`"));
            Due.holds("it is there: " + path, Files.exists(Path.of(path)));
        }
    }

    private void commandIsWhatItSays() {
        Due.holds("README.md tells the one command", page.contains("## How to run its tests\n\n    .ci/run\n"));
        Due.holds(".ci/run can be run", Files.isExecutable(Path.of(".ci/run")));
    }
}
