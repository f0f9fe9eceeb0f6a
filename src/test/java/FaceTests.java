import java.lang.reflect.Constructor;
import java.lang.reflect.Field;
import java.lang.reflect.Method;
import java.lang.reflect.Modifier;
import java.nio.file.Files;
import java.nio.file.Path;
import java.util.Arrays;
import java.util.Set;
import java.util.TreeSet;
import java.util.regex.Matcher;
import java.util.regex.Pattern;

/** The public face by reflection, and what of LANGUAGE.md a scan of the source can see. */
public final class FaceTests {
    private static int wrong = 0;

    private static final String[] FACE = {
        "int feed(int,int,int,int,int)", "boolean end(int)", "int fault(int)", "int loop()", "int guess()",
        "int rule(int)", "int choices(int)", "int choice(int,int,int)", "int leads(int,int,int)",
        "long paid(int,boolean,int)", "long ends(int,boolean,int)", "int unsure()", "int plan(int,boolean,int)",
        "long within(int,int,boolean,int)", "int half(int)", "long guessed(int,int)", "long ahead(int,int,int)",
        "int refutes(int)", "long best(int,int)", "int run(int,int,int,int,int)", "int bind(int,int)",
        "int price(int,int)", "int most(int)", "int status(int)", "int count(int)",
    };

    public static void main(String[] args) throws Exception {
        checkFace();
        checkNested();
        checkSource(Files.readString(Path.of("src/main/java/CoinLoops.java")));
        System.out.println(wrong == 0 ? "the face is as due" : wrong + " faults of the face");
        if (wrong != 0) {
            System.exit(1);
        }
    }

    private static void must(boolean holds, String what) {
        if (!holds) {
            wrong++;
            System.out.println(what);
        }
    }

    private static String shape(Method m) {
        StringBuilder b = new StringBuilder(m.getReturnType() + " " + m.getName() + "(");
        for (int i = 0; i < m.getParameterCount(); i++) {
            b.append(i > 0 ? "," : "").append(m.getParameterTypes()[i]);
        }
        return b.append(")").toString();
    }

    private static void checkFace() {
        Class<CoinLoops> c = CoinLoops.class;
        must(Modifier.isPublic(c.getModifiers()) && Modifier.isFinal(c.getModifiers()), "the class is not public and final");
        Set<String> due = new TreeSet<>(Arrays.asList(FACE));
        Set<String> found = new TreeSet<>();
        Set<String> names = new TreeSet<>();
        for (Method m : c.getDeclaredMethods()) {
            if (!Modifier.isPrivate(m.getModifiers())) {
                found.add(shape(m));
                names.add(m.getName());
                must(Modifier.isPublic(m.getModifiers()) && !Modifier.isStatic(m.getModifiers()), m + " is not public");
            }
        }
        must(due.equals(found), "the methods are " + found);
        for (Method m : c.getDeclaredMethods()) {
            must(!Modifier.isPrivate(m.getModifiers()) || !names.contains(m.getName()), m + " bears a public name");
        }
        for (Field f : c.getDeclaredFields()) {
            must(Modifier.isPrivate(f.getModifiers()) || f.getName().equals("NONE"), f + " is not private");
            must(!Modifier.isStatic(f.getModifiers()) || Modifier.isFinal(f.getModifiers()), f + " is static, not final");
        }
        Constructor<?>[] makers = c.getDeclaredConstructors();
        must(makers.length == 1 && Modifier.isPublic(makers[0].getModifiers()) && makers[0].getParameterCount() == 0,
                "the constructors are " + Arrays.toString(makers));
        must(CoinLoops.NONE == -1, "NONE");
    }

    private static void checkNested() {
        Class<?>[] nested = CoinLoops.class.getDeclaredClasses();
        must(nested.length < 12, nested.length + " classes inside");
        for (Class<?> c : nested) {
            must(Modifier.isStatic(c.getModifiers()), c + " is not static");
            int fields = 0;
            for (Field f : c.getDeclaredFields()) {
                fields += Modifier.isStatic(f.getModifiers()) ? 0 : 1;
            }
            must(fields <= 20, c + " has " + fields + " fields");
            for (Method m : c.getDeclaredMethods()) {
                must(m.getParameterCount() <= 7, m + " has too many parameters");
                must(Arrays.stream(FACE).noneMatch(f -> f.contains(" " + m.getName() + "(")), m + " bears a public name");
            }
        }
    }

    private static void checkSource(String source) {
        String code = source.replaceAll("(?s)/\\*.*?\\*/", "").replaceAll("//[^\n]*", "");
        for (String word : new String[] {"catch", "finally", "synchronized", "assert", "instanceof", "Exact", "->", "::",
                "System.out", "System.nanoTime", "System.currentTimeMillis", "Random", "Thread", "Object", "package",
                "double", "float", "Arrays", "getMessage", "toString", "hashCode", "equals"}) {
            must(!code.contains(word), "the source has " + word);
        }
        Matcher imports = Pattern.compile("import ([^;]*);").matcher(code);
        while (imports.find()) {
            must(imports.group(1).equals("java.util.NoSuchElementException"), "import of " + imports.group(1));
        }
        Matcher made = Pattern.compile("throw new (\\w+)").matcher(code);
        while (made.find()) {
            must(made.group(1).equals("NoSuchElementException"), "throws " + made.group(1));
        }
        for (char c : source.toCharArray()) {
            must(c < 128, "a sign above 127");
        }
        checkLengths(source);
    }

    private static void checkLengths(String source) {
        String[] lines = source.split("\n");
        int start = 0;
        for (int i = 0; i < lines.length; i++) {
            if (lines[i].matches(" {4}(?: {4})?[a-z].*\\) (throws \\w+ )?\\{")) {
                start = i;
            }
            if (lines[i].matches(" {4}(?: {4})?\\}")) {
                boolean isMethod = lines[start].indexOf(lines[start].trim()) == lines[i].indexOf('}');
                must(!isMethod || i - start <= 60, lines[start].trim() + " is " + (i - start) + " lines long");
            }
        }
    }
}
