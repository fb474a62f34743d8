import java.io.IOException;
import java.lang.reflect.Method;
import java.lang.reflect.Modifier;
import java.nio.file.Files;
import java.nio.file.Path;
import java.util.List;
import java.util.TreeSet;
import java.util.stream.Collectors;
import java.util.stream.Stream;

/** README.md must tell what is so: its example answers what stands behind each call, all calls and tests are named. */
public final class ReadmeTest {
    private static final String[] EXAMPLE = {
        "RepairTalk talk = new RepairTalk();",
        "talk.feed(0x6e6f6465, 0x3b6e6f64, 0x653b6c69, 0x6e6b2030, 0x20312064);",
        "talk.feed(0x656c6179, 0x2032206c, 0x6f737320, 0x30000000, 0);",
        "talk.end(33);",
        "talk.group(); // 1:",
        "talk.send();",
        "talk.ticks(3); // 1:",
        "talk.holders(0); // 3:",
        "talk.whole(false); // 0:"};

    private static void example(String readme) {
        List<String> lines = readme.lines().map(line -> line.replaceAll("\\s+", " ").trim())
            .filter(line -> line.matches("(RepairTalk talk|talk\\.).*")).collect(Collectors.toList());
        Check.due("lines of the example", lines.size(), EXAMPLE.length);
        for (int i = 0; i < Math.min(lines.size(), EXAMPLE.length); i++) {
            Check.due("'" + lines.get(i) + "' tells '" + EXAMPLE[i] + "'", lines.get(i).startsWith(EXAMPLE[i]), true);
        }
        RepairTalk talk = new RepairTalk();
        Check.due("feed", talk.feed(0x6e6f6465, 0x3b6e6f64, 0x653b6c69, 0x6e6b2030, 0x20312064), 20);
        Check.due("feed", talk.feed(0x656c6179, 0x2032206c, 0x6f737320, 0x30000000, 0), 40);
        Check.due("end(33)", talk.end(33), true);
        Check.due("group()", talk.group(), 1);
        Check.due("send()", talk.send(), 0);
        Check.due("ticks(3)", talk.ticks(3), 1);
        Check.due("holders(0)", talk.holders(0), 3);
        Check.due("whole(false)", talk.whole(false), 0);
    }

    private static void calls(String readme) {
        for (Method method : RepairTalk.class.getDeclaredMethods()) {
            if (Modifier.isPublic(method.getModifiers())) {
                String name = "`" + method.getName() + "`";
                Check.due(name + " is named", readme.contains(name), true);
            }
        }
    }

    private static void tests(String readme) throws IOException {
        TreeSet<String> named = readme.lines().filter(line -> line.matches("\\| `\\w+Test` \\|.*"))
            .map(line -> line.substring(3, line.indexOf("` |"))).collect(Collectors.toCollection(TreeSet::new));
        TreeSet<String> there;
        try (Stream<Path> files = Files.list(Path.of("src/test/java"))) {
            there = files.map(file -> file.getFileName().toString()).filter(name -> name.endsWith("Test.java"))
                .map(name -> name.replace(".java", "")).collect(Collectors.toCollection(TreeSet::new));
        }
        Check.due("tests that are named, " + named + ", are those that are there, " + there, named.equals(there), true);
    }

    public static void main(String[] args) throws IOException {
        String readme = Files.readString(Path.of("README.md"));
        example(readme);
        calls(readme);
        tests(readme);
        Check.finish();
    }
}
