import java.io.IOException;
import java.lang.reflect.Constructor;
import java.lang.reflect.Field;
import java.lang.reflect.Method;
import java.lang.reflect.Modifier;
import java.nio.file.Files;
import java.nio.file.Path;
import java.util.Arrays;
import java.util.List;
import java.util.Set;
import java.util.TreeSet;
import java.util.regex.Matcher;
import java.util.regex.Pattern;

/** The rules of ../shared/LANGUAGE.md that a program can look after, by their numbers. */
public final class LanguageTest {
    private static final Path SOURCE = Path.of("src/main/java/StarRight.java");

    private static final List<String> FACE = List.of(
        "int write(int)", "int wipe()", "int fault()", "int night()", "int about(int)", "int roof(int,int)",
        "int star(int,int)", "int purse(int)", "int build(int,int)", "int light(int)", "int sell(int,int)",
        "int clouds()", "int hour()", "int undo()", "int rents(int,int)", "int hold(int,int)", "int fires(int,int)",
        "int share(int,int,boolean)", "int bestLaw(int,int)", "int starless(int)", "int rests(int,int,int,int)",
        "int shine(int,int,boolean)", "int unshine()", "int found(int)", "int look()",
        "int chance(int,int,int,boolean)", "long seed(long)", "int nights(int)", "int keep(int)", "int again(int)");

    /** What stands in the class and no rule allows, with the rule. */
    private static final String[][] BARRED = {
        {"6", "\\b(throw|throws|try|catch|finally|synchronized|assert)\\b"},
        {"6", "\\b(equals|hashCode|toString)\\b"},
        {"2", "->|::"},
        {"4", "\\b(import|package|Arrays|Float|Double|Character|Boolean|Object|Exception|Thread|Random)\\b"},
        {"4", "\\bSystem\\.(?!arraycopy\\b)"},
        {"4", "\\b(Math|Long|Integer)\\.\\w*Exact\\b"},
        {"5", "\\bstatic\\s*\\{"},
        {"9", "\\bwhile\\s*\\(true\\)|\\bfor\\s*\\(;;\\)"},
    };

    private static int wrong;

    private static void rule(String number, String text) {
        wrong++;
        System.out.println("rule " + number + ": " + text);
    }

    private static String told(Method m) {
        StringBuilder t = new StringBuilder(m.getReturnType() + " " + m.getName() + "(");
        for (Class<?> c : m.getParameterTypes()) t.append(t.charAt(t.length() - 1) == '(' ? "" : ",").append(c);
        return t.append(")").toString();
    }

    private static void face() {
        Set<String> names = new TreeSet<>();
        Set<String> open = new TreeSet<>();
        for (Method m : StarRight.class.getDeclaredMethods()) {
            if (Modifier.isPublic(m.getModifiers())) {
                open.add(told(m));
                names.add(m.getName());
            } else if (!Modifier.isPrivate(m.getModifiers())) {
                rule("1", m.getName() + " is not private");
            }
        }
        if (!open.equals(new TreeSet<>(FACE))) rule("1", "the face is " + open);
        for (Method m : StarRight.class.getDeclaredMethods()) {
            if (Modifier.isPrivate(m.getModifiers()) && names.contains(m.getName())) rule("1", m.getName() + " twice");
        }
        Set<String> constants = Set.of("UNKNOWN", "BAD", "LATE", "FULL", "NONE");
        for (Field f : StarRight.class.getDeclaredFields()) {
            boolean asDue = constants.contains(f.getName()) ? Modifier.isPublic(f.getModifiers()) : Modifier.isPrivate(f.getModifiers());
            if (!asDue) rule("1", f.getName());
        }
        Constructor<?>[] made = StarRight.class.getDeclaredConstructors();
        if (made.length != 1 || made[0].getParameterCount() != 0 || !Modifier.isPublic(made[0].getModifiers())) {
            rule("1", "constructors " + Arrays.toString(made));
        }
        if (StarRight.class.getModifiers() != (Modifier.PUBLIC | Modifier.FINAL)) rule("1", "public and final");
    }

    private static void classAndFields(Class<?> c) {
        int fields = 0;
        for (Field f : c.getDeclaredFields()) {
            boolean fixed = Modifier.isStatic(f.getModifiers());
            if (fixed && !Modifier.isFinal(f.getModifiers())) rule("5", c + " " + f.getName());
            if (!fixed) fields++;
        }
        if (fields > 20) rule("11", c + " has " + fields + " fields");
        for (Method m : c.getDeclaredMethods()) {
            if (m.getParameterCount() > 7) rule("11", m.getName() + " takes too much");
        }
        for (Class<?> inner : c.getDeclaredClasses()) {
            int how = inner.getModifiers();
            if (!Modifier.isStatic(how) || Modifier.isPublic(how) || Modifier.isProtected(how)) rule("2", inner + "");
            classAndFields(inner);
        }
    }

    private static void words() throws IOException {
        String code = Files.readString(SOURCE).replaceAll("(?s)/\\*.*?\\*/", " ").replaceAll("//[^\n]*", " ");
        for (String[] barred : BARRED) {
            Matcher m = Pattern.compile(barred[1]).matcher(code);
            while (m.find()) rule(barred[0], "'" + m.group() + "' stands in the class");
        }
        // Every object and array is made with its owner, none by a call.
        for (String line : code.split("\n")) {
            if (line.contains("new ") && !line.matches("\\s+private final .*= new .*;")) rule("12", line.strip());
        }
        if (StarRight.class.getDeclaredClasses().length > 12) rule("11", "classes");
    }

    private static void methodLengths() throws IOException {
        String method = "";
        int length = 0;
        for (String line : Files.readAllLines(SOURCE)) {
            if (line.matches("(    ){1,2}\\w.*\\) \\{")) {
                method = line.strip();
                length = 0;
            }
            length++;
            if (length == 61 && !method.isEmpty()) rule("11", method + " is long");
            if (line.matches("(    ){1,2}\\}")) method = "";
        }
    }

    public static void main(String[] args) throws IOException {
        face();
        classAndFields(StarRight.class);
        words();
        methodLengths();
        System.out.println(wrong == 0 ? "the rules are kept" : wrong + " rules are not kept");
        if (wrong != 0) System.exit(1);
    }
}
