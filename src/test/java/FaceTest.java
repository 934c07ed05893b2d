import java.io.IOException;
import java.lang.reflect.Constructor;
import java.lang.reflect.Field;
import java.lang.reflect.Method;
import java.lang.reflect.Modifier;
import java.nio.charset.StandardCharsets;
import java.nio.file.Files;
import java.nio.file.Path;
import java.util.ArrayList;
import java.util.List;
import java.util.TreeSet;

/** "The public face": the class has what the document writes there, just so, and nothing more that can be seen. */
public final class FaceTest {
    private static final Path DOCUMENT = Path.of("../shared/DOC.md");

    private static void holds(String what, boolean is) {
        Check.due(what, 1, is ? 1 : 0);
    }

    /** As "int set(int, int, long)". */
    private static String withoutNames(String method) {
        List<String> types = new ArrayList<>();
        for (String parameter : Face.parameters(method)) {
            types.add(parameter.substring(0, parameter.indexOf(' ')));
        }
        return method.substring(0, method.indexOf('(')) + "(" + String.join(", ", types) + ")";
    }

    private static String told(Method method) {
        List<String> types = new ArrayList<>();
        for (Class<?> type : method.getParameterTypes()) {
            types.add(type.getName());
        }
        return method.getReturnType().getName() + " " + method.getName() + "(" + String.join(", ", types) + ")";
    }

    private static void methods() {
        TreeSet<String> due = new TreeSet<>();
        for (String method : Face.METHODS) {
            due.add(withoutNames(method));
        }
        TreeSet<String> got = new TreeSet<>();
        for (Method method : TownRiverBeast.class.getDeclaredMethods()) {
            if (!Modifier.isPrivate(method.getModifiers())) {
                got.add(told(method));
                holds(method + " is public, of an object, and tells no exception", Modifier.isPublic(method.getModifiers())
                    && !Modifier.isStatic(method.getModifiers()) && method.getExceptionTypes().length == 0);
            }
        }
        for (String method : due) {
            holds("there is " + method, got.contains(method));
        }
        for (String method : got) {
            holds(method + " is of the face", due.contains(method));
        }
    }

    private static void theClass() throws IllegalAccessException {
        Class<?> c = TownRiverBeast.class;
        holds("public and final", Modifier.isPublic(c.getModifiers()) && Modifier.isFinal(c.getModifiers()));
        holds("no package, nothing above it", c.getPackageName().isEmpty() && c.getSuperclass() == Object.class
            && c.getInterfaces().length == 0);
        Constructor<?>[] all = c.getDeclaredConstructors();
        holds("one constructor, TownRiverBeast()", all.length == 1 && all[0].getParameterCount() == 0
            && Modifier.isPublic(all[0].getModifiers()) && all[0].getExceptionTypes().length == 0);
        for (Field field : c.getDeclaredFields()) {
            if (!Modifier.isPrivate(field.getModifiers())) {
                int how = field.getModifiers();
                holds(field + " is public static final int NONE = -1", field.getName().equals("NONE")
                    && field.getType() == int.class && Modifier.isPublic(how) && Modifier.isStatic(how) && Modifier.isFinal(how)
                    && field.getInt(null) == -1);
            }
        }
        Check.due("NONE", -1, TownRiverBeast.NONE);
    }

    private static void document() throws IOException {
        if (!Files.exists(DOCUMENT)) {
            System.out.println("no document at " + DOCUMENT.toAbsolutePath() + ": the face is not compared with it");
            return;
        }
        String text = Files.readString(DOCUMENT, StandardCharsets.UTF_8);
        StringBuilder block = new StringBuilder("```java\npublic final class TownRiverBeast {\n"
            + "    public static final int NONE = -1;\n    public TownRiverBeast();\n");
        for (String method : Face.METHODS) {
            block.append("    public ").append(method).append(";\n");
        }
        holds("the document's face is this one", text.contains("\n## The public face\n\n" + block + "}\n```\n"));
        holds("Promise 1", text.contains("\n## Promise 1: A new object\n\n`TownRiverBeast()`: "));
        for (int k = 0; k < Face.METHODS.length; k++) {
            String method = Face.METHODS[k];
            holds("Promise " + (k + 2), text.contains("\n## Promise " + (k + 2) + ": " + Face.name(method) + "\n\n`" + method + "`: "));
        }
        holds("no promise more", !text.contains("\n## Promise " + (Face.METHODS.length + 2) + ":"));
    }

    public static void main(String[] args) throws Exception {
        theClass();
        methods();
        document();
        Check.end();
    }
}
