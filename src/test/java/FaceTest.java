import java.io.IOException;
import java.lang.reflect.Constructor;
import java.lang.reflect.Field;
import java.lang.reflect.Method;
import java.lang.reflect.Modifier;
import java.nio.file.Files;
import java.nio.file.Path;
import java.util.Set;
import java.util.TreeSet;
import java.util.regex.Matcher;
import java.util.regex.Pattern;

/** The public face, the constants, and the rules of the language that a look at the source can tell. */
public final class FaceTest {
    private static final String FACE = """
            int people(int)
            long worth(int, int)
            long worthOf(int)
            int feed(int)
            int clear()
            int deeds()
            int told(int)
            int stages()
            long level(int, int)
            int fixed(int)
            int stageOf(int)
            long fair(int, int)
            long grudge(int, int)
            int ordered(int)
            int empty()
            long cost(int)
            long byTurns(int, int)
            long surplus(int, int, int)
            long would(int, int, int, int)
            long needs(int, int, int)
            int is(int)
            int idle()
            int alike(int)
            int against(int)
            long grudgeBy(int, int, int, int)
            int shares(int, int)
            int orderedBy(int, int, int)
            int better(int, int, int, int)
            int judge(int, int)
            int lay(int, int)
            long proof(int, int, int)
            int proves(int, int)
            int tilts(int, int)
            int list(int, int)
            int set(int, int, long)
            long get(int, int)
            int image()
            int undo()
            """;

    public static void main(String[] args) throws IOException {
        constants();
        members();
        inside();
        source();
        Check.end("FaceTest");
    }

    private static void constants() {
        Check.due("NONE", GrudgeDesk.NONE, -1);
        Check.due("BAD", GrudgeDesk.BAD, -2);
        Check.due("STATE", GrudgeDesk.STATE, -3);
        Check.due("FULL", GrudgeDesk.FULL, -4);
        Check.due("NO", GrudgeDesk.NO, Long.MIN_VALUE);
    }

    private static void members() {
        Set<String> want = new TreeSet<>(FACE.lines().toList());
        Set<String> got = new TreeSet<>();
        Set<String> names = new TreeSet<>();
        for (Method method : GrudgeDesk.class.getDeclaredMethods()) {
            if (Modifier.isPublic(method.getModifiers())) {
                got.add(told(method));
                names.add(method.getName());
            }
        }
        Check.holds("the public methods are " + want + ", not " + got, want.equals(got));
        for (Method method : GrudgeDesk.class.getDeclaredMethods()) {
            if (!Modifier.isPublic(method.getModifiers())) {
                Check.holds(method + " is private", Modifier.isPrivate(method.getModifiers()));
                Check.holds(method + " bears no public name", !names.contains(method.getName()));
            }
        }
        Set<String> constants = Set.of("NONE", "BAD", "STATE", "FULL", "NO");
        for (Field field : GrudgeDesk.class.getDeclaredFields()) {
            boolean isPublic = constants.contains(field.getName());
            Check.holds(field + " is as the face has it",
                    isPublic ? Modifier.isPublic(field.getModifiers()) : Modifier.isPrivate(field.getModifiers()));
        }
        Constructor<?>[] constructors = GrudgeDesk.class.getDeclaredConstructors();
        Check.due("constructors", constructors.length, 1);
        Check.holds("the class is public and final", Modifier.isPublic(GrudgeDesk.class.getModifiers())
                && Modifier.isFinal(GrudgeDesk.class.getModifiers()));
    }

    private static String told(Method method) {
        StringBuilder text = new StringBuilder(method.getReturnType().getName() + " " + method.getName() + "(");
        Class<?>[] types = method.getParameterTypes();
        for (int k = 0; k < types.length; k++) {
            text.append(k == 0 ? "" : ", ").append(types[k].getName());
        }
        return text.append(")").toString();
    }

    private static void inside() {
        Set<String> names = new TreeSet<>();
        for (Method method : GrudgeDesk.class.getMethods()) {
            names.add(method.getName());
        }
        Class<?>[] classes = GrudgeDesk.class.getDeclaredClasses();
        Check.holds("some twelve classes at most", classes.length <= 11);
        for (Class<?> c : classes) {
            Check.holds(c + " is static", Modifier.isStatic(c.getModifiers()));
            int fields = 0;
            for (Field field : c.getDeclaredFields()) {
                boolean isStatic = Modifier.isStatic(field.getModifiers());
                fields += isStatic ? 0 : 1;
                Check.holds(field + " is final, if static", !isStatic || Modifier.isFinal(field.getModifiers()));
            }
            Check.holds(c + " has some twenty fields at most", fields <= 20);
            for (Method method : c.getDeclaredMethods()) {
                Check.holds(method + " has seven parameters at most", method.getParameterCount() <= 7);
                Check.holds(method + " bears no public name", !names.contains(method.getName()));
            }
        }
    }

    private static void source() throws IOException {
        String source = Files.readString(Path.of("src/main/java/GrudgeDesk.java"));
        String code = source.replaceAll("(?s)/\\*.*?\\*/", "").replaceAll("//.*", "");
        String[] ruledOut = {"\\bthrow\\b", "\\bthrows\\b", "\\btry\\b", "\\bcatch\\b", "\\bsynchronized\\b",
            "\\bassert\\b", "->", "::", "\\bpackage\\b", "Exact\\b", "\\bnew \\w+\\(.*\\{", "Thread",
            "System\\.(?!arraycopy)", "Random"};
        for (String word : ruledOut) {
            Matcher found = Pattern.compile(word).matcher(code);
            Check.holds("no " + word + " in the source", !found.find());
        }
        for (String line : code.split("\n")) {
            boolean makes = line.contains("new ");
            Check.holds("only fields make objects: " + line,
                    !makes || line.matches(" +(private )?final [\\w\\[\\]]+ \\w+ = new .*;"));
        }
        Check.holds("signs 1 to 127", source.chars().allMatch(sign -> sign > 0 && sign < 128));
        Check.holds("no method of over sixty lines", longestMethod(source) <= 60);
    }

    /** By the indentation that the file keeps to. */
    private static int longestMethod(String source) {
        int longest = 0;
        int from = -1;
        String end = "";
        String[] lines = source.split("\n");
        for (int k = 0; k < lines.length; k++) {
            Matcher head = Pattern.compile("^( {4}| {8})\\w.*\\) \\{$").matcher(lines[k]);
            if (head.find()) {
                from = k;
                end = head.group(1) + "}";
            } else if (from >= 0 && lines[k].equals(end)) {
                longest = Math.max(longest, k - from + 1);
                from = -1;
            }
        }
        return longest;
    }
}
