import java.lang.reflect.Constructor;
import java.lang.reflect.Field;
import java.lang.reflect.Method;
import java.lang.reflect.Modifier;
import java.nio.file.Files;
import java.nio.file.Path;
import java.util.Set;
import java.util.TreeSet;
import java.util.regex.Matcher;
import java.util.regex.Pattern;

/** The public face of the document, and those rules of LANGUAGE.md that a look at the text can tell. */
public final class FaceTest {
    private static final Checks checks = new Checks();

    private static final Set<String> METHODS = Set.of(
            "int put(int,int,int,int,int)", "int cut(int)", "int root(int,boolean)", "int trial()",
            "int run(int,int,int,int)", "long told(int)", "int said(int)", "int marks(int,int)",
            "long known(int,int,int)", "int read(int,int,int)", "int used(int)", "int field(int)",
            "int doubled(int)", "int size(int,int)", "long part(int,int,int,int)", "int clear()");

    public static void main(String[] args) throws Exception {
        constants();
        members();
        source();
        checks.end("FaceTest");
    }

    private static void constants() {
        checks.due("UNKNOWN", DeadCode.UNKNOWN, -101);
        checks.due("OUTSIDE", DeadCode.OUTSIDE, -102);
        checks.due("STATE", DeadCode.STATE, -103);
        checks.due("FULL", DeadCode.FULL, -104);
        checks.due("NONE", DeadCode.NONE, -1);
    }

    private static void members() {
        checks.holds("the class is public and final",
                Modifier.isPublic(DeadCode.class.getModifiers()) && Modifier.isFinal(DeadCode.class.getModifiers()));
        Set<String> seen = new TreeSet<>();
        Set<String> publicNames = new TreeSet<>();
        for (Method method : DeadCode.class.getDeclaredMethods()) {
            if (Modifier.isPublic(method.getModifiers())) {
                seen.add(signature(method));
                publicNames.add(method.getName());
            } else {
                checks.holds(method + " is private", Modifier.isPrivate(method.getModifiers()));
            }
        }
        checks.holds("methods " + seen, seen.equals(METHODS));
        Constructor<?>[] made = DeadCode.class.getDeclaredConstructors();
        checks.holds("one public constructor without parameters", made.length == 1
                && Modifier.isPublic(made[0].getModifiers()) && made[0].getParameterCount() == 0);
        int publicFields = 0;
        for (Field field : DeadCode.class.getDeclaredFields()) {
            publicFields += Modifier.isPublic(field.getModifiers()) ? 1 : 0;
            checks.holds(field + " is public or private",
                    Modifier.isPublic(field.getModifiers()) || Modifier.isPrivate(field.getModifiers()));
            checks.holds(field + " is final if static",
                    !Modifier.isStatic(field.getModifiers()) || Modifier.isFinal(field.getModifiers()));
        }
        checks.due("public constants", publicFields, 5);
        for (Class<?> inside : DeadCode.class.getDeclaredClasses()) {
            checks.holds(inside + " is static", Modifier.isStatic(inside.getModifiers()));
            for (Method method : inside.getDeclaredMethods()) {
                checks.holds(method + " has a name of its own", !publicNames.contains(method.getName()));
            }
        }
    }

    private static String signature(Method method) {
        StringBuilder text = new StringBuilder();
        text.append(method.getReturnType()).append(' ').append(method.getName()).append('(');
        String between = "";
        for (Class<?> type : method.getParameterTypes()) {
            text.append(between).append(type);
            between = ",";
        }
        return text.append(')').toString();
    }

    private static void source() throws Exception {
        String text = Files.readString(Path.of("src/main/java/DeadCode.java"));
        String code = text.replaceAll("(?s)/\\*.*?\\*/", " ").replaceAll("//[^\n]*", " ");
        Matcher words = Pattern.compile("\\b(throw|throws|try|catch|synchronized|assert|import|package|instanceof)\\b"
                + "|->|::").matcher(code);
        checks.holds("no word that is ruled out", !words.find());
        checks.holds("plain letters alone", text.chars().allMatch(letter -> letter < 128));
        objectsMade(code);
        lengths(code);
    }

    /** Rows are made with the object that holds them; what calls make would add up over a run. */
    private static void objectsMade(String code) {
        int inConstructor = 0;
        for (String line : code.split("\n")) {
            if (line.contains("new ") && !line.contains("private final")) {
                inConstructor++;
            }
        }
        checks.due("objects made elsewhere than with a field: program and second", inConstructor, 2);
    }

    /** A method begins four or eight spaces in and ends at the brace below its first letter. */
    private static void lengths(String code) {
        String begin = "";
        String name = "";
        int lines = 0;
        for (String line : code.split("\n")) {
            Matcher head = Pattern.compile("^( {4}| {8})(?! |if |for |switch )[\\w\\[\\] ]+\\((.*)\\) \\{$").matcher(line);
            if (head.matches()) {
                begin = head.group(1);
                name = line;
                lines = 0;
                checks.holds("at most seven parameters: " + line, head.group(2).split(",").length <= 7);
            }
            lines++;
            if (line.equals(begin + "}")) {
                checks.holds("at most sixty lines: " + name, lines <= 60);
            }
        }
    }
}
