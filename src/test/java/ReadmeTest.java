import java.lang.reflect.Method;
import java.lang.reflect.Modifier;
import java.nio.file.Files;
import java.nio.file.Path;
import java.util.TreeSet;
import java.util.regex.Matcher;
import java.util.regex.Pattern;

/** Makes every call that README.md shows, in its order, and says each whose answer is not the one that stands there. */
public final class ReadmeTest {
    private static final Pattern MADE = Pattern.compile("ChordRings rings = new ChordRings\\(\\);.*");
    private static final Pattern SHOWN = Pattern.compile("rings\\.(\\w+)\\(([-0-9, ]*)\\);\\s+// (-?\\d+|[A-Z]+)(:.*)?");
    private static final Pattern CONSTANT = Pattern.compile("\\| `([A-Z]+)` *\\| (-\\d+) .*|`(NONE)` \\((-\\d+)\\).*");

    private static final TreeSet<String> shown = new TreeSet<>();
    private static final TreeSet<String> told = new TreeSet<>();
    private static ChordRings rings;
    private static int answers = 0;
    private static int wrong = 0;

    private static void check(boolean holds, String what) {
        if (!holds) {
            wrong++;
            System.out.println(what);
        }
    }

    public static void main(String[] args) throws Exception {
        boolean inside = false;
        for (String line : Files.readAllLines(Path.of("README.md"))) {
            if (line.startsWith("```")) {
                inside = line.equals("```java");
            } else if (inside && !line.isBlank()) {
                readCall(line);
            } else {
                readConstant(line);
            }
        }
        for (Method method : ChordRings.class.getDeclaredMethods()) {
            if (Modifier.isPublic(method.getModifiers())) {
                check(shown.contains(method.getName()), "not shown: " + method.getName());
            }
        }
        check(told.size() == 5, "constants told: " + told);
        System.out.println(answers + " answers of README.md, " + wrong + " things are not as it says");
        if (wrong != 0) {
            System.exit(1);
        }
    }

    private static void readCall(String line) throws Exception {
        if (MADE.matcher(line).matches()) {
            rings = new ChordRings();
            return;
        }
        Matcher call = SHOWN.matcher(line);
        if (!call.matches()) {
            check(false, "no call with its answer: " + line);
            return;
        }
        String[] written = call.group(2).isEmpty() ? new String[0] : call.group(2).split(", ");
        Object[] numbers = new Object[written.length];
        Class<?>[] types = new Class<?>[written.length];
        for (int i = 0; i < written.length; i++) {
            numbers[i] = Integer.valueOf(written[i]);
            types[i] = int.class;
        }
        String due = call.group(3);
        int want = Character.isLetter(due.charAt(0)) ? constant(due) : Integer.parseInt(due);
        int got = (Integer) ChordRings.class.getMethod(call.group(1), types).invoke(rings, numbers);
        check(got == want, line + " answered " + got);
        shown.add(call.group(1));
        answers++;
    }

    private static void readConstant(String line) throws Exception {
        Matcher row = CONSTANT.matcher(line);
        if (row.matches()) {
            String name = row.group(1) != null ? row.group(1) : row.group(3);
            String number = row.group(2) != null ? row.group(2) : row.group(4);
            check(constant(name) == Integer.parseInt(number), line);
            told.add(name);
        }
    }

    private static int constant(String name) throws Exception {
        return ChordRings.class.getField(name).getInt(null);
    }
}
