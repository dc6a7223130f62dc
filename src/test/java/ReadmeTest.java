import java.io.File;
import java.io.IOException;
import java.lang.reflect.Method;
import java.lang.reflect.Modifier;
import java.nio.file.Files;
import java.nio.file.Path;
import java.util.ArrayList;
import java.util.List;
import java.util.Set;
import java.util.TreeSet;
import java.util.regex.Matcher;
import java.util.regex.Pattern;

/** What README.md says of the class and of its tests is true: its example is run as it stands there. */
public final class ReadmeTest {
    private static final List<String> START = List.of(
        "ColourCoupons x = new ColourCoupons();",
        "String town = \"red24;H5;blue12;S3;\";",
        "x.text(0, town.length());",
        "for (int i = 0; i < town.length(); i++) x.put(0, i, town.charAt(i));");
    private static final Pattern CALL = Pattern.compile("x\\.(\\w+)\\(([-0-9, ]*)\\); +// (-?\\d+)\\b.*");

    public static void main(String[] args) throws ReflectiveOperationException, IOException {
        String page = Files.readString(Path.of("README.md"));
        example(page);
        refusals(page);
        calls(page);
        tests(page);
        Checks.end();
    }

    static void example(String page) throws ReflectiveOperationException {
        Matcher block = Pattern.compile("(?s)```java\n(.*?)```").matcher(page);
        Checks.due("there is an example", block.find() ? 1 : 0, 1);
        List<String> lines = new ArrayList<>(block.group(1).lines().toList());
        Checks.due("its start", lines.subList(0, START.size()).equals(START) ? 1 : 0, 1);
        ColourCoupons x = new ColourCoupons();
        Checks.write(x, 0, "red24;H5;blue12;S3;");
        for (String line : lines.subList(START.size(), lines.size())) run(x, line);
    }

    static void run(ColourCoupons x, String line) throws ReflectiveOperationException {
        Matcher call = CALL.matcher(line);
        Checks.due("a call with its answer: " + line, call.matches() ? 1 : 0, 1);
        if (!call.matches()) return;
        String[] told = call.group(2).isEmpty() ? new String[0] : call.group(2).split(", ");
        Object[] numbers = new Object[told.length];
        Class<?>[] types = new Class<?>[told.length];
        for (int i = 0; i < told.length; i++) {
            numbers[i] = Integer.parseInt(told[i]);
            types[i] = int.class;
        }
        Method method = ColourCoupons.class.getMethod(call.group(1), types);
        Checks.due(line, ((Number) method.invoke(x, numbers)).longValue(), Long.parseLong(call.group(3)));
    }

    static void refusals(String page) throws ReflectiveOperationException {
        Matcher line = Pattern.compile("(?m)^\\| (-\\d) \\| ([A-Z]+) \\|").matcher(page);
        int many = 0;
        while (line.find()) {
            many++;
            Checks.due(line.group(2), ColourCoupons.class.getField(line.group(2)).getInt(null), Integer.parseInt(line.group(1)));
        }
        Checks.due("refusals told", many, 6);
    }

    static void calls(String page) {
        String part = page.substring(page.indexOf("### The calls"), page.indexOf("asked() has"));
        Set<String> told = new TreeSet<>();
        int many = 0;
        Matcher line = Pattern.compile("(?m)^\\| [^|]+ \\| ([a-z, ]+) \\|$").matcher(part);
        while (line.find()) {
            if (line.group(1).equals("calls")) continue;
            for (String name : line.group(1).split(", ")) {
                told.add(name);
                many++;
            }
        }
        Set<String> there = new TreeSet<>();
        for (Method m : ColourCoupons.class.getDeclaredMethods()) {
            if (Modifier.isPublic(m.getModifiers())) there.add(m.getName());
        }
        Checks.due("each call is told once", many, there.size());
        Checks.due("calls " + told + " for " + there, told.equals(there) ? 1 : 0, 1);
    }

    static void tests(String page) {
        Set<String> told = new TreeSet<>();
        Matcher line = Pattern.compile("(?m)^\\| (\\w+Test) \\|").matcher(page);
        while (line.find()) told.add(line.group(1) + ".java");
        Set<String> there = new TreeSet<>();
        for (String name : new File("src/test/java").list()) {
            if (name.endsWith("Test.java")) there.add(name);
        }
        Checks.due("tests " + told + " for " + there, told.equals(there) ? 1 : 0, 1);
    }
}
