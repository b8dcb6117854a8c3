import java.io.IOException;
import java.lang.reflect.Method;
import java.lang.reflect.Modifier;
import java.nio.file.DirectoryStream;
import java.nio.file.Files;
import java.nio.file.Path;
import java.util.Set;
import java.util.TreeSet;
import java.util.regex.Matcher;
import java.util.regex.Pattern;

/** README.md is true: its calls answer what it says, every call stands in it, and every test of the project. */
public final class ReadmeTest {
    private static final Check check = new Check();
    private static final Pattern CALL = Pattern.compile("x\\.(\\w+)\\(([^)]*)\\);\\s+// (-?\\w+): .+");

    public static void main(String[] args) throws IOException {
        String readme = Files.readString(Path.of("README.md"));
        examples(readme);
        refusals(readme);
        tests(readme);
        check.end("readme");
    }

    private static void examples(String readme) {
        Set<String> shown = new TreeSet<>();
        Matcher block = Pattern.compile("(?s)```java\n(.*?)```").matcher(readme);
        while (block.find()) example(block.group(1).split("\n"), shown);
        for (Method method : HalfAsked.class.getDeclaredMethods()) {
            if (Modifier.isPublic(method.getModifiers())) check.holds("shown: " + method.getName(), shown.contains(method.getName()));
        }
    }

    private static void example(String[] lines, Set<String> shown) {
        check.holds("an object is made first", lines[0].equals("HalfAsked x = new HalfAsked();"));
        Calls real = new Calls(new HalfAsked());
        Calls plain = new Calls(new Model());
        for (int i = 1; i < lines.length; i++) {
            Matcher call = CALL.matcher(lines[i]);
            check.holds("can be read: " + lines[i], call.matches());
            if (!call.matches()) continue;
            String text = call.group(1) + " " + call.group(2).replace(",", "").replaceAll("(0x\\w+)L", "$1");
            check.due(lines[i], real.read(text), Calls.number(call.group(3)));
            check.due("(model) " + lines[i], plain.read(text), Calls.number(call.group(3)));
            shown.add(call.group(1));
        }
    }

    private static void refusals(String readme) {
        Matcher row = Pattern.compile("\\| `([A-Z]+)` \\| (-\\d+) \\|").matcher(readme);
        int rows = 0;
        for (; row.find(); rows++) check.due("refusal " + row.group(1), Long.parseLong(row.group(2)), Calls.number(row.group(1)));
        check.due("refusals", rows, 8);
    }

    private static void tests(String readme) throws IOException {
        Set<String> there = new TreeSet<>();
        try (DirectoryStream<Path> files = Files.newDirectoryStream(Path.of("src/test/java"), "*.java")) {
            for (Path file : files) there.add(file.getFileName().toString().replace(".java", ""));
        }
        Set<String> named = new TreeSet<>();
        Matcher name = Pattern.compile("`(\\w+Test)`").matcher(readme);
        while (name.find()) named.add(name.group(1));
        for (String test : there) check.holds("named: " + test, !test.endsWith("Test") || named.contains(test));
        for (String test : named) check.holds("there: " + test, there.contains(test));
    }
}
