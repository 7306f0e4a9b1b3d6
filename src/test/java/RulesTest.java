import java.lang.reflect.Constructor;
import java.lang.reflect.Field;
import java.lang.reflect.Method;
import java.lang.reflect.Modifier;
import java.nio.charset.StandardCharsets;
import java.nio.file.Files;
import java.nio.file.Path;
import java.util.Set;
import java.util.TreeSet;
import java.util.regex.Matcher;
import java.util.regex.Pattern;

/** The document's face and those rules of LANGUAGE.md that can be seen by looking at the file and its classes. */
public final class RulesTest {
    private static final Checks c = new Checks("RulesTest");
    private static final String[] FACE = {
        "int household(int, int, int)", "boolean bar(int, int, boolean)", "int place(int, int, int)",
        "int room(int, int, int, int)", "boolean way(int, int, int)", "boolean mud(int, int, int)",
        "boolean feast(int, int)", "boolean bring(int, int, int)", "int feed(int, int, int, int, int)",
        "int ordinance(int, int)", "int fault()", "int where()", "int force(int)", "int eats(int, int, boolean)",
        "int need(int)", "int lodge(int)", "int lodged(int)", "int why(int)", "int route(int)", "int at(int)",
        "int lasts()", "int step(int)", "int about(int, int)", "int was(int)", "int lacked(int)", "int plea(int)",
        "int hear(int)", "int heard(int)", "int next(int)", "int count(int)", "int trouble()"};
    private static final String[] BANNED = {
        "\\b(throw|try|catch|synchronized|assert|import|package|protected|native|null)\\b", "->", "::",
        "\\w+Exact\\b", "static \\{", "\\b(System|Thread|Object|double|float)\\b", "\"\\s*\\+", "\\+\\s*\""};

    public static void main(String[] args) throws Exception {
        face();
        members();
        text(Files.readString(Path.of("src/main/java/CourtProgress.java"), StandardCharsets.ISO_8859_1));
        c.end();
    }

    private static void face() {
        Set<String> want = new TreeSet<>(Set.of(FACE));
        Set<String> got = new TreeSet<>();
        Set<String> names = new TreeSet<>();
        for (Method m : CourtProgress.class.getDeclaredMethods()) {
            if (Modifier.isPublic(m.getModifiers())) {
                got.add(signature(m));
                names.add(m.getName());
            } else {
                c.due(m + " is private", Modifier.isPrivate(m.getModifiers()), true);
            }
        }
        c.due("the public methods " + got, got.equals(want), true);
        for (Class<?> k : CourtProgress.class.getDeclaredClasses()) {
            for (Method m : k.getDeclaredMethods()) {
                c.due(m + " bears a public name", names.contains(m.getName()), false);
            }
        }
        for (Method m : CourtProgress.class.getDeclaredMethods()) {
            boolean shadows = !Modifier.isPublic(m.getModifiers()) && names.contains(m.getName());
            c.due(m + " bears a public name", shadows, false);
        }
        c.due("the class is final", Modifier.isFinal(CourtProgress.class.getModifiers()), true);
        c.due("constructors", CourtProgress.class.getDeclaredConstructors().length, 1);
        c.due("NONE", CourtProgress.NONE, -1);
    }

    private static String signature(Method m) {
        StringBuilder all = new StringBuilder(m.getReturnType() + " " + m.getName() + "(");
        for (Class<?> p : m.getParameterTypes()) {
            all.append(all.charAt(all.length() - 1) == '(' ? "" : ", ").append(p);
        }
        return all.append(")").toString();
    }

    private static void members() {
        Class<?>[] inside = CourtProgress.class.getDeclaredClasses();
        c.due("at most twelve classes", inside.length + 1 <= 12, true);
        classMembers(CourtProgress.class);
        for (Class<?> k : inside) {
            c.due(k + " is static and not public", Modifier.isStatic(k.getModifiers()) && !Modifier.isPublic(k.getModifiers()), true);
            classMembers(k);
        }
        for (Field f : CourtProgress.class.getDeclaredFields()) {
            c.due(f + " is private, or NONE", Modifier.isPrivate(f.getModifiers()) || f.getName().equals("NONE"), true);
        }
    }

    private static void classMembers(Class<?> k) {
        int fields = 0;
        for (Field f : k.getDeclaredFields()) {
            boolean isStatic = Modifier.isStatic(f.getModifiers());
            fields += isStatic ? 0 : 1;
            c.due(f + " is final if it is static", !isStatic || Modifier.isFinal(f.getModifiers()), true);
        }
        c.due(k + " has at most twenty fields", fields <= 20, true);
        for (Method m : k.getDeclaredMethods()) {
            c.due(m + " has at most seven parameters", m.getParameterCount() <= 7, true);
        }
        for (Constructor<?> m : k.getDeclaredConstructors()) {
            c.due(m + " has at most seven parameters", m.getParameterCount() <= 7, true);
        }
    }

    private static void text(String whole) {
        String code = whole.replaceAll("(?s)/\\*.*?\\*/", "").replaceAll("//[^\n]*", "");
        for (String banned : BANNED) {
            Matcher m = Pattern.compile(banned).matcher(code);
            c.due("where " + banned + " stands in the file", m.find() ? m.start() : -1, -1);
        }
        int longest = 0;
        int since = 0;
        String[] lines = whole.split("\n");
        for (int i = 0; i < lines.length; i++) {
            if (lines[i].matches("( {4}| {8})[^ }/*@].*\\) \\{")) {
                since = i;
            }
            if (lines[i].matches("( {4}| {8})\\}")) {
                longest = Math.max(longest, i - since + 1);
            }
        }
        c.due("the longest method, " + longest + " lines", longest <= 60, true);
        for (int i = 0; i < whole.length(); i++) {
            c.due("a sign beyond 127 at " + i, whole.charAt(i) > 127, false);
        }
    }
}
