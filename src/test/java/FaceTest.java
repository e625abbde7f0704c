import java.io.IOException;
import java.lang.reflect.Field;
import java.lang.reflect.Method;
import java.lang.reflect.Modifier;
import java.nio.file.Files;
import java.nio.file.Path;
import java.util.Set;
import java.util.TreeSet;
import java.util.regex.Matcher;
import java.util.regex.Pattern;

/** The public face of the document, and the rules of the language that can be seen from outside. */
public final class FaceTest {
    private static final Path DOCUMENT = Path.of("../shared/DOC.md");
    private static final Set<String> FACE = Set.of("feed/5", "read/2", "filter/2", "place/0", "many/2", "holds/2",
            "fails/2", "which/1");

    public static void main(String[] args) throws IOException {
        face();
        documentsFace();
        classesInside();
        source();
        Check.end();
    }

    private static void face() {
        Class<?> face = FilterReader.class;
        Check.due("the class is public and final", face.getModifiers(), Modifier.PUBLIC | Modifier.FINAL);
        Check.due("constructors", face.getDeclaredConstructors().length, 1);
        Check.due("public constructors", face.getConstructors().length, 1);
        Set<String> methods = new TreeSet<>();
        for (Method method : face.getDeclaredMethods()) {
            if (!Modifier.isPrivate(method.getModifiers())) {
                methods.add(method.getName() + "/" + method.getParameterCount());
                Check.due(method + " answers an int", method.getReturnType() == int.class ? 1 : 0, 1);
            }
        }
        Check.due("methods " + methods, methods.equals(new TreeSet<>(FACE)) ? 1 : 0, 1);
        for (Field field : face.getDeclaredFields()) {
            Check.due(field + " is private", Modifier.isPrivate(field.getModifiers()) ? 1 : 0, 1);
        }
    }

    /** That the methods asked for above are those of the document. */
    private static void documentsFace() throws IOException {
        if (!Files.exists(DOCUMENT)) {
            System.out.println("not tested: there is no " + DOCUMENT);
            return;
        }
        Set<String> methods = new TreeSet<>();
        Matcher line = Pattern.compile("    public int (\\w+)\\((.*)\\);").matcher(Files.readString(DOCUMENT));
        while (line.find()) {
            int parameters = line.group(2).isEmpty() ? 0 : line.group(2).split(",").length;
            methods.add(line.group(1) + "/" + parameters);
        }
        Check.due("methods of the document " + methods, methods.equals(new TreeSet<>(FACE)) ? 1 : 0, 1);
    }

    private static void classesInside() {
        Set<String> faceNames = new TreeSet<>();
        for (String method : FACE) {
            faceNames.add(method.substring(0, method.indexOf('/')));
        }
        Class<?>[] inside = FilterReader.class.getDeclaredClasses();
        Check.due("at most twelve classes", inside.length <= 11 ? 1 : 0, 1);
        for (Class<?> one : inside) {
            Check.due(one + " is static", Modifier.isStatic(one.getModifiers()) ? 1 : 0, 1);
            int fields = 0;
            for (Field field : one.getDeclaredFields()) {
                fields += Modifier.isStatic(field.getModifiers()) ? 0 : 1;
                boolean changes = Modifier.isStatic(field.getModifiers()) && !Modifier.isFinal(field.getModifiers());
                Check.due(field + " is no static state", changes ? 1 : 0, 0);
            }
            Check.due(one + " has at most twenty fields", fields <= 20 ? 1 : 0, 1);
            for (Method method : one.getDeclaredMethods()) {
                Check.due(method + " has a name of the face", faceNames.contains(method.getName()) ? 1 : 0, 0);
                Check.due(method + " has at most seven parameters", method.getParameterCount() <= 7 ? 1 : 0, 1);
            }
        }
    }

    private static void source() throws IOException {
        String text = Files.readString(Path.of("src/main/java/FilterReader.java"));
        String[] outside = {"import ", "package ", "->", "::", "catch", "throw", "try ", "assert", "synchronized",
            "instanceof", "System.", "Exact", "Random", "float", "double", "var "};
        for (String word : outside) {
            Check.due("the source has " + word, text.contains(word) ? 1 : 0, 0);
        }
    }
}
