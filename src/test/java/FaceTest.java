import java.io.IOException;
import java.lang.reflect.Constructor;
import java.lang.reflect.Field;
import java.lang.reflect.Member;
import java.lang.reflect.Method;
import java.lang.reflect.Modifier;
import java.nio.file.Files;
import java.nio.file.Path;
import java.util.ArrayList;
import java.util.List;
import java.util.Set;
import java.util.TreeSet;

/** The public face of the document: no member of it is missing, and none is beside it. */
public final class FaceTest {
    private static final Path DOCUMENT = Path.of("../shared/DOC.md");
    private static final int ALL_MEMBERS = 29;

    /** A member as the document writes it, without the names of its parameters. */
    private static String shown(Method method) {
        StringBuilder text = new StringBuilder(Modifier.toString(method.getModifiers()));
        text.append(' ').append(method.getReturnType().getSimpleName());
        text.append(' ').append(method.getName());
        return text.append(list(method.getParameterTypes())).append(thrown(
                method.getExceptionTypes())).toString();
    }

    private static String shown(Field field) {
        try {
            return Modifier.toString(field.getModifiers()) + " " + field.getType().getSimpleName()
                    + " " + field.getName() + " = " + field.get(null);
        } catch (IllegalAccessException e) {
            throw new AssertionError(e);
        }
    }

    private static String list(Class<?>[] types) {
        List<String> names = new ArrayList<>();
        for (Class<?> type : types) {
            names.add(type.getSimpleName());
        }
        return "(" + String.join(", ", names) + ")";
    }

    private static String thrown(Class<?>[] types) {
        String names = list(types);
        return types.length == 0 ? "" : " throws " + names.substring(1, names.length() - 1);
    }

    private static Set<String> faceOfDocument() throws IOException {
        Set<String> face = new TreeSet<>();
        String text = Files.readString(DOCUMENT);
        String block = text.substring(text.indexOf("```java"), text.indexOf("```\n\n## Desc"));
        for (String line : block.split("\n")) {
            if (line.startsWith("    public ")) {
                face.add(line.strip().replace(";", "").replaceAll("(int|boolean) \\w+([,)])",
                        "$1$2"));
            }
        }
        return face;
    }

    private static Set<String> faceOfProgram() {
        Set<String> face = new TreeSet<>();
        for (Method method : PathProfiler.class.getDeclaredMethods()) {
            if (isOpen(method)) {
                face.add(shown(method));
            }
        }
        for (Constructor<?> constructor : PathProfiler.class.getDeclaredConstructors()) {
            if (isOpen(constructor)) {
                face.add(Modifier.toString(constructor.getModifiers()) + " "
                        + constructor.getName() + list(constructor.getParameterTypes()));
            }
        }
        for (Field field : PathProfiler.class.getDeclaredFields()) {
            if (isOpen(field)) {
                face.add(shown(field));
            }
        }
        return face;
    }

    private static boolean isOpen(Member member) {
        return !Modifier.isPrivate(member.getModifiers());
    }

    private static void noneIsAsTheDocumentSays() throws IOException {
        Script.due("the document's line of NONE", Files.readString(DOCUMENT).contains(
                "- `NONE = -1`: There is no such number."), true);
        Script.due("NONE", PathProfiler.NONE, -1);
    }

    public static void main(String[] args) throws IOException {
        Set<String> face = faceOfDocument();
        Script.due("members of the document's face", face.size(), ALL_MEMBERS);
        Script.due("rule 1: the face", faceOfProgram(), face);
        Script.due("rule 1: public and final", PathProfiler.class.getModifiers(),
                Modifier.PUBLIC | Modifier.FINAL);
        noneIsAsTheDocumentSays();
        Script.end();
    }
}
