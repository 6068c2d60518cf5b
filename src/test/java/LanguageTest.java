import java.io.IOException;
import java.lang.reflect.Constructor;
import java.lang.reflect.Field;
import java.lang.reflect.Method;
import java.lang.reflect.Modifier;
import java.nio.file.Files;
import java.nio.file.Path;
import java.util.Set;
import java.util.TreeSet;
import java.util.regex.Matcher;
import java.util.regex.Pattern;

/** The face of the class, and those rules of LANGUAGE.md that a search of the text can see. */
public final class LanguageTest {
    private static final String SOURCE = "src/main/java/StatuteBook.java";
    private static final Check CHECK = new Check("LanguageTest");

    /** In the order of the promises, from 2 on. */
    static final String[] FACE = {
        "int type(int)", "int clear()", "int enact(int)", "int revoke(int, boolean)", "int commence(int, int)",
        "int withdraw()", "int undo()", "int amendment(int, int)", "int operation(int, int, int)",
        "int word(int, int, int)", "int clauses(int, int)", "int clause(int, int, int, int)",
        "int textWord(int, int, int, int)", "int find(int, int, int)", "int print(int, int)", "int printed(int)",
        "int history(int, int, int)", "int difference(int, int, int)", "int containing(int, int)",
        "int references(int, int)", "int reach(int, int, int)", "int tally(int)", "int conflict(int, int)",
        "int effect(int, int)", "int fewestRevocations(int, int)", "int between(int, int)", "int tidy(int)",
        "int save(int)", "int restore(int)", "int count(int)", "long digest()"};

    public static void main(String[] args) throws IOException {
        constants();
        methods();
        namesInside();
        source(withoutComments(Files.readString(Path.of(SOURCE))));
        CHECK.end();
    }

    private static void constants() {
        CHECK.due("NONE", StatuteBook.NONE, -1);
        CHECK.due("BAD", StatuteBook.BAD, -2);
        CHECK.due("STATE", StatuteBook.STATE, -3);
        CHECK.due("FULL", StatuteBook.FULL, -4);
        CHECK.due("VOID", StatuteBook.VOID, -5);
        Set<String> open = new TreeSet<>();
        for (Field field : StatuteBook.class.getDeclaredFields()) {
            if (!Modifier.isPrivate(field.getModifiers())) {
                open.add(field.getName());
            }
            boolean isConstant = !Modifier.isStatic(field.getModifiers()) || Modifier.isFinal(field.getModifiers());
            CHECK.dueTrue(field.getName() + " is no static state", isConstant);
        }
        CHECK.dueTrue("open fields: " + open, open.equals(Set.of("NONE", "BAD", "STATE", "FULL", "VOID")));
    }

    private static void methods() {
        Set<String> open = new TreeSet<>();
        for (Method method : StatuteBook.class.getDeclaredMethods()) {
            if (Modifier.isPublic(method.getModifiers()) && !Modifier.isStatic(method.getModifiers())) {
                String types = "";
                for (Class<?> type : method.getParameterTypes()) {
                    types += (types.isEmpty() ? "" : ", ") + type;
                }
                open.add(method.getReturnType() + " " + method.getName() + "(" + types + ")");
            } else {
                CHECK.dueTrue(method.getName() + " is private", Modifier.isPrivate(method.getModifiers()));
            }
        }
        CHECK.dueTrue("open methods: " + open, open.equals(new TreeSet<>(Set.of(FACE))));
        Constructor<?>[] constructors = StatuteBook.class.getDeclaredConstructors();
        CHECK.due("constructors", constructors.length, 1);
        CHECK.dueTrue("a public constructor", Modifier.isPublic(constructors[0].getModifiers()));
        CHECK.due("its parameters", constructors[0].getParameterCount(), 0);
        CHECK.dueTrue("a final class", Modifier.isFinal(StatuteBook.class.getModifiers()));
    }

    static String nameOf(String signature) {
        return signature.substring(signature.indexOf(' ') + 1, signature.indexOf('('));
    }

    private static void namesInside() {
        Set<String> taken = new TreeSet<>();
        for (String each : FACE) {
            taken.add(nameOf(each));
        }
        for (Method method : StatuteBook.class.getDeclaredMethods()) {
            boolean isFree = Modifier.isPublic(method.getModifiers()) || !taken.contains(method.getName());
            CHECK.dueTrue(method.getName() + " is no name of a public method", isFree);
        }
        Class<?>[] inside = StatuteBook.class.getDeclaredClasses();
        CHECK.dueTrue("classes: " + inside.length, inside.length <= 11);
        for (Class<?> each : inside) {
            int modifiers = each.getModifiers();
            CHECK.dueTrue(each + " is static and not open", Modifier.isStatic(modifiers)
                    && !Modifier.isPublic(modifiers) && !Modifier.isProtected(modifiers));
            for (Method method : each.getDeclaredMethods()) {
                CHECK.dueTrue(each + ": " + method.getName(), !taken.contains(method.getName()));
            }
        }
    }

    private static String withoutComments(String source) {
        return source.replaceAll("(?s)/\\*.*?\\*/", "").replaceAll("//[^\n]*", "");
    }

    private static void source(String source) {
        String[] forbidden = {"\\b(throw|throws|try|catch|finally|synchronized|assert|package|native|volatile)\\b",
            "->|::", "\\bstatic\\s*\\{", "\\b(equals|hashCode|toString)\\s*\\(", "\\bstatic (?!final)\\w+(\\[\\])? \\w+( =|;)",
            "\\b(System\\.(?!arraycopy)|Random|Thread|Runtime|Class\\b)", "\\w+Exact\\b", "[^\\x00-\\x7f]",
            "import (?!java\\.util\\.(Arrays|ArrayList|List|Iterator);)", "@\\w+", "\\bwhile \\(true\\)", "for \\(;"};
        for (String each : forbidden) {
            Matcher matcher = Pattern.compile(each).matcher(source);
            boolean found = matcher.find();
            CHECK.dueTrue("no " + each + (found ? " but " + matcher.group() : ""), !found);
        }
        // Everything is made in constructors or their field initialisers, so that no call fills the room.
        Matcher made = Pattern.compile("(?m)^(.*)\\bnew \\w+").matcher(source);
        while (made.find()) {
            boolean inField = made.group(1).contains("private final ");
            boolean inConstructor = made.group(1).matches("\\s+(cells|bytes) = ");
            CHECK.dueTrue("made at once: " + made.group(), inField || inConstructor);
        }
        CHECK.dueTrue("methods of sixty lines at most", longestMethod(source) <= 60);
    }

    private static int longestMethod(String source) {
        int longest = 0;
        Matcher method = Pattern.compile("(?ms)^( +)[^\\n]*\\) \\{$.*?^\\1\\}$").matcher(source);
        int place = 0;
        while (method.find(place)) {
            longest = Math.max(longest, (int) method.group().lines().count());
            place = method.start() + 1;
        }
        return longest;
    }
}
