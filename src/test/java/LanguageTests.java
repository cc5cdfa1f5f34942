import java.io.IOException;
import java.lang.reflect.Constructor;
import java.lang.reflect.Field;
import java.lang.reflect.Member;
import java.lang.reflect.Method;
import java.lang.reflect.Modifier;
import java.nio.charset.StandardCharsets;
import java.nio.file.Files;
import java.nio.file.Path;
import java.util.Arrays;
import java.util.Set;
import java.util.TreeSet;
import java.util.regex.Matcher;
import java.util.regex.Pattern;

/** What can be seen of LANGUAGE.md from outside: the face of the class, and words that its source must not have. */
public final class LanguageTests {
    private static final Path SOURCE = Path.of("src", "main", "java", "FewPlaces.java");
    private static final Set<String> FACE = Set.of(
        "int begin(int, int, int)", "long moment(int, int, int)", "int place(int, int, int)", "int orbit(int, int, int)",
        "int places(int, int, int, int)", "int drop(int)", "int about(int, int)", "long sum(int, int, int)",
        "long error(int, int, int)", "int degree()", "int first(int)", "int is(int)", "int least(int)", "int keep(int)",
        "int load(int)", "int pair(int, int)", "long term(int, int)", "long whole(int)", "long byRule(int, int)",
        "int sheet(int, int, int)", "int lose(int)", "int put(int, int, int)", "long at(int, int, int)", "int tell(int)",
        "int count(int)", "int as(int, int)", "int trace()", "int fault()", "int told(int)");
    private static final Set<String> CONSTANTS = Set.of("UNKNOWN", "OUTSIDE", "STATE", "FULL", "NONE", "LOST");
    private static final String[] FORBIDDEN = {
        "throw", "throws", "try", "catch", "synchronized", "assert", "package", "Object", "Exact", "->", "::", "System.out",
        "protected", "import static", "Random", "nanoTime", "currentTimeMillis", "yield"
    };
    private static int wrong = 0;

    public static void main(String[] args) throws IOException {
        face();
        nestedNames();
        source();
        System.out.println(wrong == 0 ? "the language is kept" : wrong + " faults of the language");
        if (wrong != 0) {
            System.exit(1);
        }
    }

    private static void check(boolean holds, String what) {
        if (!holds) {
            wrong++;
            System.out.println(what);
        }
    }

    private static String told(Method m) {
        StringBuilder types = new StringBuilder();
        for (Class<?> type : m.getParameterTypes()) {
            types.append(types.length() == 0 ? "" : ", ").append(type.getSimpleName());
        }
        return m.getReturnType().getSimpleName() + " " + m.getName() + "(" + types + ")";
    }

    private static boolean isHidden(Member m) {
        return Modifier.isPrivate(m.getModifiers()) || m.isSynthetic();
    }

    private static void face() {
        check(Modifier.isFinal(FewPlaces.class.getModifiers()), "the class is not final");
        Set<String> seen = new TreeSet<>();
        for (Method m : FewPlaces.class.getDeclaredMethods()) {
            if (!isHidden(m)) {
                check(Modifier.isPublic(m.getModifiers()) && FACE.contains(told(m)), "not of the face: " + told(m));
                seen.add(told(m));
            }
        }
        check(seen.equals(new TreeSet<>(FACE)), "the face lacks a method: only " + seen);
        for (Field f : FewPlaces.class.getDeclaredFields()) {
            check(isHidden(f) || CONSTANTS.contains(f.getName()), "not of the face: " + f.getName());
            check(!Modifier.isStatic(f.getModifiers()) || Modifier.isFinal(f.getModifiers()), "static, not final: " + f.getName());
        }
        Constructor<?>[] all = FewPlaces.class.getDeclaredConstructors();
        check(all.length == 1 && Modifier.isPublic(all[0].getModifiers()), "constructors: " + Arrays.toString(all));
    }

    private static void nestedNames() {
        Set<String> names = new TreeSet<>();
        for (String method : FACE) {
            names.add(method.substring(method.indexOf(' ') + 1, method.indexOf('(')));
        }
        Class<?>[] nested = FewPlaces.class.getDeclaredClasses();
        check(nested.length <= 12, "too many classes");
        for (Class<?> c : nested) {
            check(Modifier.isStatic(c.getModifiers()), "not static: " + c.getName());
            check(c.getDeclaredFields().length <= 20, "too many fields: " + c.getName());
            for (Method m : c.getDeclaredMethods()) {
                check(!names.contains(m.getName()), "bears the name of a public one: " + m);
                check(m.getParameterCount() <= 7, "too many parameters: " + m);
            }
        }
        for (Method m : FewPlaces.class.getDeclaredMethods()) {
            check(!isHidden(m) || !names.contains(m.getName()), "bears the name of a public one: " + m);
        }
    }

    private static void source() throws IOException {
        String text = Files.readString(SOURCE, StandardCharsets.ISO_8859_1);
        String code = text.replaceAll("(?s)/\\*.*?\\*/", "").replaceAll("//[^\\n]*", "");
        for (String word : FORBIDDEN) {
            String edge = Character.isLetter(word.charAt(0)) && !word.equals("Exact") ? "\\b" : "";
            check(!Pattern.compile(edge + Pattern.quote(word) + edge).matcher(code).find(), "the source has: " + word);
        }
        Matcher imports = Pattern.compile("import ([^;]+);").matcher(code);
        while (imports.find()) {
            check(Set.of("java.util.Arrays", "java.util.ArrayList", "java.util.List").contains(imports.group(1)),
                "imports " + imports.group(1));
        }
    }
}
