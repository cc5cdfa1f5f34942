import java.io.IOException;
import java.lang.reflect.Constructor;
import java.lang.reflect.Field;
import java.lang.reflect.Member;
import java.lang.reflect.Method;
import java.lang.reflect.Modifier;
import java.nio.charset.StandardCharsets;
import java.nio.file.Files;
import java.nio.file.Path;
import java.util.Arrays;
import java.util.Set;
import java.util.TreeSet;
import java.util.regex.Matcher;
import java.util.regex.Pattern;

/** What can be seen of LANGUAGE.md from outside: the face of the class, and words that its source must not have. */
public final class LanguageTests {
    private static final Path SOURCE = Path.of("src", "main", "java", "FewPlaces.java");
    private static final Set<String> FACE = Set.of(
        "int begin(int, int, int)", "long moment(int, int, int)", "int place(int, int, int)", "int orbit(int, int, int)",
        "int places(int, int, int, int)", "int drop(int)", "int about(int, int)", "long sum(int, int, int)",
        "long error(int, int, int)", "int degree()", "int first(int)", "int is(int)", "int least(int)", "int keep(int)",
        "int load(int)", "int pair(int, int)", "long term(int, int)", "long whole(int)", "long byRule(int, int)",
        "int sheet(int, int, int)", "int lose(int)", "int put(int, int, int)", "long at(int, int, int)", "int tell(int)",
        "int count(int)", "int as(int, int)", "int trace()", "int fault()", "int told(int)");
    private static final Set<String> CONSTANTS = Set.of("UNKNOWN", "OUTSIDE", "STATE", "FULL", "NONE", "LOST");
    private static final String[] FORBIDDEN = {
        "throw", "throws", "try", "catch", "synchronized", "assert", "package", "Object", "Exact", "->", "::", "System.out",
        "protected", "import static", "Random", "nanoTime", "currentTimeMillis", "yield", "Thread", "java.io", "java.nio",
        "hashCode", "toString", "getClass", "native", "volatile"
    };
    /** Of what rule 4 allows, the names that stand behind a class of the library. */
    private static final Set<String> LIBRARY = Set.of("System.arraycopy", "Arrays.fill", "Arrays.copyOf", "Arrays.copyOfRange",
        "Math.abs", "Math.max", "Math.min", "Math.floorDiv", "Math.floorMod", "Long.MIN_VALUE", "Integer.compare", "Long.compare");
    private static final int MOST_CLASSES = 12, MOST_FIELDS = 20, MOST_PARAMETERS = 7, MOST_LINES = 60;
    private static int wrong = 0;

    public static void main(String[] args) throws IOException {
        face();
        fields();
        nestedNames();
        String text = Files.readString(SOURCE, StandardCharsets.ISO_8859_1);
        String code = text.replaceAll("(?s)/\\*.*?\\*/", "").replaceAll("//[^\\n]*", "");
        words(code);
        library(code);
        lengths(text);
        check(text.chars().allMatch(c -> c < 128), "the source has letters that are no ASCII");
        System.out.println(wrong == 0 ? "the language is kept" : wrong + " faults of the language");
        if (wrong != 0) {
            System.exit(1);
        }
    }

    private static void check(boolean holds, String what) {
        if (!holds) {
            wrong++;
            System.out.println(what);
        }
    }

    private static String told(Method m) {
        StringBuilder types = new StringBuilder();
        for (Class<?> type : m.getParameterTypes()) {
            types.append(types.length() == 0 ? "" : ", ").append(type.getSimpleName());
        }
        return m.getReturnType().getSimpleName() + " " + m.getName() + "(" + types + ")";
    }

    private static boolean isHidden(Member m) {
        return Modifier.isPrivate(m.getModifiers()) || m.isSynthetic();
    }

    private static void face() {
        int kind = FewPlaces.class.getModifiers();
        check(Modifier.isFinal(kind) && Modifier.isPublic(kind), "the class is not public and final");
        Set<String> seen = new TreeSet<>();
        for (Method m : FewPlaces.class.getDeclaredMethods()) {
            if (!isHidden(m)) {
                check(Modifier.isPublic(m.getModifiers()) && FACE.contains(told(m)), "not of the face: " + told(m));
                seen.add(told(m));
            }
        }
        check(seen.equals(new TreeSet<>(FACE)), "the face lacks a method: only " + seen);
        Constructor<?>[] all = FewPlaces.class.getDeclaredConstructors();
        check(all.length == 1 && Modifier.isPublic(all[0].getModifiers()), "constructors: " + Arrays.toString(all));
    }

    private static void fields() {
        Set<String> seen = new TreeSet<>();
        for (Field f : FewPlaces.class.getDeclaredFields()) {
            if (!isHidden(f)) {
                Class<?> due = f.getName().equals("LOST") ? long.class : int.class;
                check(Modifier.isPublic(f.getModifiers()) && f.getType() == due, "not as the face tells: " + f);
                seen.add(f.getName());
            }
        }
        check(seen.equals(new TreeSet<>(CONSTANTS)), "the constants are " + seen);
        fieldsOf(FewPlaces.class);
        for (Class<?> c : FewPlaces.class.getDeclaredClasses()) {
            fieldsOf(c);
        }
    }

    private static void fieldsOf(Class<?> c) {
        int own = 0;
        for (Field f : c.getDeclaredFields()) {
            if (Modifier.isStatic(f.getModifiers())) {
                check(Modifier.isFinal(f.getModifiers()), "static, not final: " + f);
            } else {
                own++;
            }
        }
        check(own <= MOST_FIELDS, "too many fields: " + c.getName());
    }

    private static void nestedNames() {
        Set<String> names = new TreeSet<>();
        for (String method : FACE) {
            names.add(method.substring(method.indexOf(' ') + 1, method.indexOf('(')));
        }
        Class<?>[] nested = FewPlaces.class.getDeclaredClasses();
        check(nested.length <= MOST_CLASSES, "too many classes");
        check(FewPlaces.class.getResource("FewPlaces$1.class") == null, "there is a class without a name");
        for (Class<?> c : nested) {
            check(Modifier.isStatic(c.getModifiers()), "not static: " + c.getName());
            for (Method m : c.getDeclaredMethods()) {
                check(!names.contains(m.getName()), "bears the name of a public one: " + m);
                check(m.getParameterCount() <= MOST_PARAMETERS, "too many parameters: " + m);
            }
        }
        for (Method m : FewPlaces.class.getDeclaredMethods()) {
            check(!isHidden(m) || !names.contains(m.getName()), "bears the name of a public one: " + m);
            check(m.getParameterCount() <= MOST_PARAMETERS, "too many parameters: " + m);
        }
    }

    private static void words(String code) {
        for (String word : FORBIDDEN) {
            String edge = Character.isLetter(word.charAt(0)) && !word.equals("Exact") ? "\\b" : "";
            check(!Pattern.compile(edge + Pattern.quote(word) + edge).matcher(code).find(), "the source has: " + word);
        }
        check(!Pattern.compile("\\bstatic\\s*\\{").matcher(code).find(), "the source has a static initialiser");
    }

    private static void library(String code) {
        Matcher imports = Pattern.compile("import ([^;]+);").matcher(code);
        while (imports.find()) {
            check(Set.of("java.util.Arrays", "java.util.ArrayList", "java.util.List").contains(imports.group(1)),
                "imports " + imports.group(1));
        }
        Matcher uses = Pattern.compile("(?<![.\\w])[A-Z]\\w*\\.\\w+").matcher(code);
        while (uses.find()) {
            check(LIBRARY.contains(uses.group()), "uses " + uses.group());
        }
    }

    /** A method begins with a line that has its name and a brace, and ends with a brace as far to the right. */
    private static void lengths(String text) {
        Matcher methods = Pattern.compile("(?ms)^( {4}| {8})((?:(?:public|private|static|final) )*[\\w\\[\\]]+ ?\\w*\\([^)]*\\)) \\{\\n.*?^\\1\\}$").matcher(text);
        int many = 0;
        while (methods.find()) {
            many++;
            long lines = methods.group().lines().count();
            check(lines <= MOST_LINES, lines + " lines: " + methods.group(2));
        }
        check(many > FACE.size(), "only " + many + " methods were found in the source");
    }
}
