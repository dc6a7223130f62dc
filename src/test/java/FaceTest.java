import java.io.IOException;
import java.lang.reflect.Constructor;
import java.lang.reflect.Field;
import java.lang.reflect.Method;
import java.lang.reflect.Modifier;
import java.nio.file.Files;
import java.nio.file.Path;
import java.util.Arrays;
import java.util.Set;
import java.util.TreeSet;
import java.util.regex.Matcher;
import java.util.regex.Pattern;

/** The document's face, no more and no less, and those rules of LANGUAGE.md that can be seen by looking. */
public final class FaceTest {
    private static final Path SOURCE = Path.of("src/main/java/ColourCoupons.java");
    private static final Path DOCUMENT = Path.of("../shared/DOC.md");

    public static void main(String[] args) throws IOException {
        constants();
        face();
        members();
        words();
        classes();
        Checks.end();
    }

    static void constants() {
        Checks.due("BAD", ColourCoupons.BAD, -1);
        Checks.due("FULL", ColourCoupons.FULL, -2);
        Checks.due("FINDING", ColourCoupons.FINDING, -3);
        Checks.due("STATE", ColourCoupons.STATE, -4);
        Checks.due("SPENT", ColourCoupons.SPENT, -6);
        Checks.due("NONE", ColourCoupons.NONE, -9);
    }

    static void face() throws IOException {
        Set<String> want = new TreeSet<>();
        Matcher line = Pattern.compile("(?m)^    public (int|long) (\\w+)\\((.*)\\);$").matcher(Files.readString(DOCUMENT));
        while (line.find()) want.add(line.group(1) + " " + line.group(2) + " " + (line.group(3).isEmpty() ? 0 : line.group(3).split(",").length));
        Set<String> got = new TreeSet<>();
        for (Method m : ColourCoupons.class.getDeclaredMethods()) {
            if (Modifier.isPublic(m.getModifiers())) got.add(m.getReturnType() + " " + m.getName() + " " + m.getParameterCount());
        }
        Checks.due("promised calls", want.size(), 44);
        Checks.due("calls " + got + " for " + want, got.equals(want) ? 1 : 0, 1);
    }

    static void members() {
        Set<String> open = new TreeSet<>();
        for (Method m : ColourCoupons.class.getDeclaredMethods()) if (Modifier.isPublic(m.getModifiers())) open.add(m.getName());
        for (Method m : ColourCoupons.class.getDeclaredMethods()) {
            if (Modifier.isPublic(m.getModifiers())) continue;
            Checks.due(m + " is private", Modifier.isPrivate(m.getModifiers()) ? 1 : 0, 1);
            Checks.due(m + " has a name of its own", open.contains(m.getName()) ? 1 : 0, 0);
        }
        Set<String> constants = new TreeSet<>();
        for (Field f : ColourCoupons.class.getDeclaredFields()) {
            if (Modifier.isPublic(f.getModifiers())) constants.add(f.getName());
            else Checks.due(f + " is private", Modifier.isPrivate(f.getModifiers()) ? 1 : 0, 1);
        }
        Checks.due("constants " + constants, constants.equals(new TreeSet<>(Arrays.asList("BAD", "FULL", "FINDING", "STATE", "SPENT", "NONE"))) ? 1 : 0, 1);
        Constructor<?>[] makers = ColourCoupons.class.getDeclaredConstructors();
        Checks.due("constructors", makers.length, 1);
        Checks.due("final", Modifier.isFinal(ColourCoupons.class.getModifiers()) ? 1 : 0, 1);
    }

    static void words() throws IOException {
        String bare = Files.readString(SOURCE).replaceAll("(?s)/\\*.*?\\*/", " ").replaceAll("//[^\n]*", " ");
        String[] banned = {"throw", "throws", "try", "catch", "finally", "synchronized", "assert", "package", "protected",
            "System\\.(?!arraycopy)", "\\w+Exact", "->", "::", "hashCode", "toString", "equals", "Random", "Thread", "@\\w+"};
        for (String word : banned) {
            String pattern = Character.isLetter(word.charAt(0)) ? "\\b" + word : word;
            if (word.matches("[a-z]+")) pattern += "\\b";
            Matcher m = Pattern.compile(pattern).matcher(bare);
            Checks.due("'" + word + "' stands in the class", m.find() ? 1 : 0, 0);
        }
        Matcher imports = Pattern.compile("(?m)^import (.*);$").matcher(bare);
        while (imports.find()) Checks.due("import " + imports.group(1), imports.group(1).equals("java.util.Arrays") ? 1 : 0, 1);
    }

    static void classes() {
        Class<?>[] inside = ColourCoupons.class.getDeclaredClasses();
        Checks.due("at most twelve classes", inside.length < 12 ? 1 : 0, 1);
        for (Class<?> c : inside) {
            Checks.due(c + " is static", Modifier.isStatic(c.getModifiers()) ? 1 : 0, 1);
            long fields = Arrays.stream(c.getDeclaredFields()).filter(f -> !Modifier.isStatic(f.getModifiers())).count();
            Checks.due(c + " has at most twenty fields", fields <= 20 ? 1 : 0, 1);
            for (Field f : c.getDeclaredFields()) {
                if (Modifier.isStatic(f.getModifiers())) Checks.due(f + " is final", Modifier.isFinal(f.getModifiers()) ? 1 : 0, 1);
            }
            for (Method m : c.getDeclaredMethods()) Checks.due(m + " takes at most seven", m.getParameterCount() <= 7 ? 1 : 0, 1);
        }
    }
}
