import java.io.IOException;
import java.lang.reflect.Constructor;
import java.lang.reflect.Field;
import java.lang.reflect.Member;
import java.lang.reflect.Method;
import java.lang.reflect.Modifier;
import java.nio.file.Files;
import java.nio.file.Path;
import java.util.HashSet;
import java.util.List;
import java.util.Set;
import java.util.TreeSet;
import java.util.regex.Matcher;
import java.util.regex.Pattern;

/** The public face of the document, and those rules of LANGUAGE.md that a program can look at. */
public final class FaceTest {
    private static final Path DOCUMENT = Path.of("../shared/DOC.md");
    private static final Path PROGRAM = Path.of("src/main/java/PathProfiler.java");
    private static final int ALL_MEMBERS = 29;

    /** A member as the document writes it, without the names of its parameters. */
    private static String shown(Method method) {
        StringBuilder text = new StringBuilder("public ");
        text.append(method.getReturnType().getSimpleName()).append(' ').append(method.getName());
        return text.append(list(method.getParameterTypes())).append(thrown(
                method.getExceptionTypes())).toString();
    }

    private static String list(Class<?>[] types) {
        List<String> names = new java.util.ArrayList<>();
        for (Class<?> type : types) {
            names.add(type.getSimpleName());
        }
        return "(" + String.join(", ", names) + ")";
    }

    private static String thrown(Class<?>[] types) {
        String names = list(types);
        return types.length == 0 ? "" : " throws " + names.substring(1, names.length() - 1);
    }

    private static Set<String> faceOfDocument() throws IOException {
        Set<String> face = new TreeSet<>();
        String text = Files.readString(DOCUMENT);
        String block = text.substring(text.indexOf("```java"), text.indexOf("```\n\n## Desc"));
        for (String line : block.split("\n")) {
            if (line.startsWith("    public ")) {
                face.add(line.strip().replace(";", "").replaceAll("(int|boolean) \\w+([,)])",
                        "$1$2"));
            }
        }
        return face;
    }

    private static Set<String> faceOfProgram() {
        Set<String> face = new TreeSet<>();
        for (Method method : PathProfiler.class.getDeclaredMethods()) {
            if (isOpen(method)) {
                face.add(shown(method));
            }
        }
        for (Constructor<?> constructor : PathProfiler.class.getDeclaredConstructors()) {
            if (isOpen(constructor)) {
                face.add("public " + constructor.getName() + list(constructor.getParameterTypes()));
            }
        }
        for (Field field : PathProfiler.class.getDeclaredFields()) {
            if (isOpen(field)) {
                face.add("public static final int " + field.getName() + " = -1");
            }
        }
        return face;
    }

    private static boolean isOpen(Member member) {
        return !Modifier.isPrivate(member.getModifiers());
    }

    private static void noPrivateMethodWithAPublicName() {
        Set<String> open = new HashSet<>();
        for (Method method : PathProfiler.class.getDeclaredMethods()) {
            if (isOpen(method)) {
                open.add(method.getName());
            }
        }
        for (Method method : PathProfiler.class.getDeclaredMethods()) {
            Script.due("rule 1: private " + method.getName(),
                    !isOpen(method) && open.contains(method.getName()), false);
        }
    }

    private static void classesInside() {
        Class<?>[] inside = PathProfiler.class.getDeclaredClasses();
        Script.due("rule 11: at most some twelve classes", inside.length < 12, true);
        for (Class<?> type : inside) {
            int modifiers = type.getModifiers();
            Script.due("rule 1: " + type.getSimpleName() + " is static and not public",
                    Modifier.isStatic(modifiers) && !Modifier.isPublic(modifiers), true);
            Script.due("rule 11: fields of " + type.getSimpleName(),
                    type.getDeclaredFields().length <= 20, true);
            for (Field field : type.getDeclaredFields()) {
                Script.due("rule 5: " + field, Modifier.isStatic(field.getModifiers())
                        && !Modifier.isFinal(field.getModifiers()), false);
            }
        }
    }

    private static void wordsLeftOut() throws IOException {
        String code = Files.readString(PROGRAM).replaceAll("(?s)/\\*.*?\\*/", "")
                .replaceAll("//[^\n]*", "").replaceAll("\"[^\"]*\"", "\"\"");
        String[] words = {"import", "package", "try", "catch", "finally", "synchronized", "assert",
            "static \\{", "->", "::", "Exact", "NaN", "System", "Random", "Thread", "getMessage",
            "class \\w+Exception", "native", "volatile", "transient", "protected", "var"};
        for (String word : words) {
            Matcher found = Pattern.compile("(?<!\\w)" + word + "(?!\\w)").matcher(code);
            Script.due("the program has " + word, found.find(), false);
        }
    }

    public static void main(String[] args) throws IOException {
        Set<String> face = faceOfDocument();
        Script.due("members of the document's face", face.size(), ALL_MEMBERS);
        Script.due("rule 1: the face", faceOfProgram(), face);
        Script.due("rule 1: public and final", PathProfiler.class.getModifiers(),
                Modifier.PUBLIC | Modifier.FINAL);
        noPrivateMethodWithAPublicName();
        classesInside();
        wordsLeftOut();
        Script.end();
    }
}
