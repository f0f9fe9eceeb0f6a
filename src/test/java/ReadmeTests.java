import java.lang.reflect.InvocationTargetException;
import java.lang.reflect.Method;
import java.lang.reflect.Modifier;
import java.nio.file.Files;
import java.nio.file.Path;
import java.util.regex.Matcher;
import java.util.regex.Pattern;

/** The calls that README.md shows answer what it says, and its table has each method of the face. */
public final class ReadmeTests {
    private static final Pattern CALL = Pattern.compile("loops\\.(\\w+)\\(([^)]*)\\);\\s*// (-?\\d+):.*");
    private static final Pattern TEXT = Pattern.compile("tell\\(loops, \"([^\"]*)\"\\);");
    private static final int SHOWN_LEAST = 20;
    private static int wrong = 0;

    public static void main(String[] args) throws Exception {
        String readme = Files.readString(Path.of("README.md"));
        checkCalls(readme);
        checkTable(readme);
        System.out.println(wrong == 0 ? "README.md holds" : wrong + " faults of README.md");
        if (wrong != 0) {
            System.exit(1);
        }
    }

    private static void must(boolean holds, String what) {
        if (!holds) {
            wrong++;
            System.out.println(what);
        }
    }

    private static void checkCalls(String readme) throws Exception {
        CoinLoops loops = new CoinLoops();
        int shown = 0;
        for (String line : readme.split("\n")) {
            Matcher text = TEXT.matcher(line);
            Matcher call = CALL.matcher(line);
            if (text.matches()) {
                tell(loops, text.group(1));
            } else if (call.matches()) {
                shown++;
                long got = answer(loops, call.group(1), call.group(2));
                must(got == Long.parseLong(call.group(3)), line + " answered " + got);
            }
        }
        must(shown >= SHOWN_LEAST, "but " + shown + " calls are shown");
    }

    /** The very lines of README.md. */
    private static void tell(CoinLoops loops, String text) {
        loops.end(0);
        for (int at = 0; at < text.length(); at += 20) {
            int[] five = new int[5];
            for (int i = 0; i < 20; i++) {
                five[i / 4] = five[i / 4] << 8 | (at + i < text.length() ? text.charAt(at + i) : 0);
            }
            loops.feed(five[0], five[1], five[2], five[3], five[4]);
        }
    }

    private static long answer(CoinLoops loops, String name, String written)
            throws IllegalAccessException, InvocationTargetException {
        String[] words = written.isEmpty() ? new String[0] : written.split(", ");
        for (Method method : CoinLoops.class.getDeclaredMethods()) {
            if (method.getName().equals(name) && method.getParameterCount() == words.length) {
                Object[] values = new Object[words.length];
                for (int i = 0; i < words.length; i++) {
                    boolean isNumber = method.getParameterTypes()[i] == int.class;
                    values[i] = isNumber ? (Object) Integer.valueOf(words[i]) : (Object) Boolean.valueOf(words[i]);
                }
                return ((Number) method.invoke(loops, values)).longValue();
            }
        }
        throw new IllegalStateException("no method " + name + "(" + written + ")");
    }

    private static void checkTable(String readme) {
        for (Method method : CoinLoops.class.getDeclaredMethods()) {
            if (Modifier.isPublic(method.getModifiers())) {
                Matcher row = Pattern.compile("\n\\| `" + method.getName() + "\\(([^)]*)\\)` \\|").matcher(readme);
                boolean found = row.find();
                must(found, "README.md has no row of " + method);
                int named = !found || row.group(1).isEmpty() ? 0 : row.group(1).split(", ").length;
                must(!found || named == method.getParameterCount(), "README.md has another row of " + method);
            }
        }
    }
}
