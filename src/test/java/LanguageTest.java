import java.lang.reflect.Constructor;
import java.lang.reflect.Field;
import java.lang.reflect.Method;
import java.lang.reflect.Modifier;
import java.nio.charset.StandardCharsets;
import java.nio.file.Files;
import java.nio.file.Path;
import java.util.ArrayList;
import java.util.List;
import java.util.regex.Matcher;
import java.util.regex.Pattern;

/** What can be told of LANGUAGE.md's rules from the text and from the compiled class. */
public final class LanguageTest {
    private static final Path SOURCE = Path.of("src/main/java/TownRiverBeast.java");
    private static final String[] FORBIDDEN = {"throw", "throws", "try", "catch", "finally", "synchronized", "assert", "import",
        "package", "->", "::", "System\\.(?!arraycopy)", "Exact\\b", "hashCode", "toString", "Object", "protected", "volatile",
        "native", "Thread", "Random"};

    private static void holds(String what, boolean is) {
        Check.due(what, 1, is ? 1 : 0);
    }

    private static String withoutCommentsAndTexts(String text) {
        return text.replaceAll("(?s)/\\*.*?\\*/", " ").replaceAll("//[^\n]*", " ").replaceAll("\"[^\"\n]*\"", "\"\"");
    }

    private static void rulesOfText(String code) {
        for (String word : FORBIDDEN) {
            String pattern = Character.isLetter(word.charAt(0)) ? "\\b" + word + (word.endsWith(")") || word.endsWith("\\b") ? "" : "\\b") : word;
            holds("no " + word, !Pattern.compile(pattern).matcher(code).find());
        }
        holds("no sign beyond 127", code.chars().allMatch(c -> c < 128));
    }

    private static void rulesOfClass() {
        List<String> open = new ArrayList<>();
        for (Method m : TownRiverBeast.class.getDeclaredMethods()) {
            boolean isPublic = Modifier.isPublic(m.getModifiers());
            holds(m + " is public or private", isPublic || Modifier.isPrivate(m.getModifiers()));
            if (isPublic) {
                open.add(m.getName());
            }
        }
        for (Field f : TownRiverBeast.class.getDeclaredFields()) {
            holds(f + " is private", Modifier.isPrivate(f.getModifiers()) || f.getName().equals("NONE"));
            holds(f + " is final, if static", !Modifier.isStatic(f.getModifiers()) || Modifier.isFinal(f.getModifiers()));
        }
        for (Constructor<?> c : TownRiverBeast.class.getDeclaredConstructors()) {
            holds(c + " is the public one", Modifier.isPublic(c.getModifiers()) && c.getParameterCount() == 0);
        }
        rulesOfMethods(TownRiverBeast.class, open);
        Class<?>[] inside = TownRiverBeast.class.getDeclaredClasses();
        holds("at most twelve classes", inside.length <= 11);
        for (Class<?> c : inside) {
            holds(c + " is static", Modifier.isStatic(c.getModifiers()));
            rulesOfMethods(c, open);
        }
    }

    private static void rulesOfMethods(Class<?> c, List<String> open) {
        int fields = 0;
        for (Field f : c.getDeclaredFields()) {
            fields += Modifier.isStatic(f.getModifiers()) ? 0 : 1;
        }
        holds(c + " has at most twenty fields", fields <= 20);
        for (Method m : c.getDeclaredMethods()) {
            holds(m + " has at most seven parameters", m.getParameterCount() <= 7);
            boolean isOfFace = c == TownRiverBeast.class && Modifier.isPublic(m.getModifiers());
            holds(m + " has a name of its own", isOfFace || !open.contains(m.getName()));
        }
    }

    /** A method ends at the first line that closes at the depth at which it began. */
    private static void lengths(String code) {
        Matcher m = Pattern.compile("(?m)^( {4}| {8})(?:public|private|static|void|int|long|boolean)[^;=]*\\) \\{\\n").matcher(code);
        int methods = 0;
        while (m.find()) {
            int end = code.indexOf("\n" + m.group(1) + "}\n", m.end());
            long lines = code.substring(m.start(), Math.max(end, m.end())).lines().count();
            holds("a method of " + lines + " lines: " + m.group().trim(), end > 0 && lines <= 60);
            methods++;
        }
        holds("methods are found", methods > 100);
    }

    public static void main(String[] args) throws Exception {
        String text = Files.readString(SOURCE, StandardCharsets.ISO_8859_1);
        rulesOfText(withoutCommentsAndTexts(text));
        rulesOfClass();
        lengths(text);
        Check.end();
    }
}
