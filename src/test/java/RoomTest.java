import java.io.IOException;
import java.lang.reflect.Array;
import java.lang.reflect.Field;
import java.lang.reflect.Modifier;
import java.nio.file.Files;
import java.nio.file.Path;
import java.util.ArrayDeque;
import java.util.Collections;
import java.util.Deque;
import java.util.IdentityHashMap;
import java.util.Set;
import java.util.regex.Matcher;
import java.util.regex.Pattern;

/** All calls of a run live in one room: an object is small, and no call makes another one. */
public final class RoomTest {
    private static final Path SOURCE = Path.of("src/main/java/ColourCoupons.java");
    private static final int MOST_OBJECTS = 100, MOST_CELLS = 1500;

    public static void main(String[] args) throws IOException, IllegalAccessException {
        size();
        same();
        nothingIsMadeByCalls();
        Checks.end();
    }

    /** The objects and arrays that an object of the class holds. */
    static Set<Object> held(ColourCoupons x) throws IllegalAccessException {
        Set<Object> all = Collections.newSetFromMap(new IdentityHashMap<>());
        Deque<Object> ahead = new ArrayDeque<>();
        ahead.add(x);
        while (!ahead.isEmpty()) {
            Object one = ahead.pop();
            if (!all.add(one)) continue;
            if (one instanceof Object[] row) {
                for (Object part : row) if (part != null) ahead.add(part);
            } else if (!one.getClass().isArray()) {
                for (Field f : one.getClass().getDeclaredFields()) {
                    if (Modifier.isStatic(f.getModifiers()) || f.getType().isPrimitive()) continue;
                    f.setAccessible(true);
                    if (f.get(one) != null) ahead.add(f.get(one));
                }
            }
        }
        return all;
    }

    static int cellsOf(Object one) {
        if (one.getClass().isArray()) return Array.getLength(one);
        int many = 0;
        for (Field f : one.getClass().getDeclaredFields()) if (!Modifier.isStatic(f.getModifiers())) many++;
        return many;
    }

    static void size() throws IllegalAccessException {
        int cells = 0;
        Set<Object> all = held(new ColourCoupons());
        for (Object one : all) cells += cellsOf(one);
        Checks.due(all.size() + " objects and arrays are few", all.size() <= MOST_OBJECTS ? 1 : 0, 1);
        Checks.due(cells + " fields and elements are few", cells <= MOST_CELLS ? 1 : 0, 1);
    }

    static void same() throws IllegalAccessException {
        ColourCoupons x = new ColourCoupons();
        Set<Object> before = held(x);
        Twins.busy(x);
        for (int h = 0; h < 4; h++) {
            for (int i = 0; i < 4; i++) x.shop(h, i);
            x.best(h);
            x.feast(h, 7);
            x.later(h, 60);
            x.test(h, 4);
        }
        for (int n = 0; n <= 3; n++) x.duel(n);
        x.lots(20, 5);
        x.keep(1);
        x.on(0);
        x.undo(0);
        x.mid(20, 7);
        x.copy(2, 0, 2, 1, 39);
        x.town(0);
        Set<Object> after = held(x);
        Checks.due("as many objects and arrays", after.size(), before.size());
        Checks.due("the same ones", after.containsAll(before) ? 1 : 0, 1);
    }

    /** Whatever is made is made for a field, ahead of any call. */
    static void nothingIsMadeByCalls() throws IOException {
        String bare = Files.readString(SOURCE).replaceAll("(?s)/\\*.*?\\*/", " ").replaceAll("//[^\n]*", " ");
        Matcher made = Pattern.compile("(?m)^.*\\b(new|clone|copyOf|copyOfRange)\\b.*$").matcher(bare);
        while (made.find()) {
            String line = made.group().strip();
            boolean forField = line.matches("(private )?final [\\w\\[\\]]+ \\w+ = new .*;") || line.matches("(cells|sizes) = new int.*;");
            Checks.due("made for a field: " + line, forField ? 1 : 0, 1);
        }
    }
}
