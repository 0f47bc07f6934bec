import java.io.IOException;
import java.lang.reflect.Constructor;
import java.lang.reflect.Field;
import java.lang.reflect.Method;
import java.lang.reflect.Modifier;
import java.nio.charset.StandardCharsets;
import java.nio.file.Files;
import java.nio.file.Path;
import java.util.ArrayList;
import java.util.Collections;
import java.util.List;
import java.util.regex.Pattern;

/** The public face of the document, and those rules of LANGUAGE.md that are easily seen. Run from the project. */
public final class FaceTest {
    private static final String[] FACE = {
        "boolean bond(int, int, boolean)", "boolean fix(int, int)", "boolean free(int, int)",
        "boolean marks(int, int)", "boolean prices(int, int)", "boolean weight(int, int)", "int best()",
        "int broken()", "int core(int)", "int cost()", "int count(int)", "int far(int, int)", "int first(int)",
        "int heap(int)", "int matched(int)", "int name(int)", "int sense(int)", "int settle(int)",
        "int share(int, int, int, int)", "int size(int)", "int sum()", "int use(int, int)"};
    private static final String[] BARRED = {"throw", "throws", "try", "catch", "finally", "synchronized", "assert",
        "protected", "volatile", "native", "Random", "System.out", "System.nanoTime", "Thread", "Exact", "->", "::"};

    public static void main(String[] args) throws IOException, NoSuchFieldException {
        theClass();
        methods();
        members();
        words();
        Check.end();
    }

    private static void theClass() throws NoSuchFieldException {
        int modifiers = WordSenses.class.getModifiers();
        Check.due("public", Modifier.isPublic(modifiers), true);
        Check.due("final", Modifier.isFinal(modifiers), true);
        Check.due("NONE", WordSenses.NONE, -1);
        Check.due("its kind", WordSenses.class.getDeclaredField("NONE").getModifiers(),
            Modifier.PUBLIC | Modifier.STATIC | Modifier.FINAL);
        Constructor<?>[] constructors = WordSenses.class.getDeclaredConstructors();
        Check.due("constructors", constructors.length, 1);
        Check.due("a public one", Modifier.isPublic(constructors[0].getModifiers()), true);
        Check.due("without arguments", constructors[0].getParameterCount(), 0);
    }

    private static void methods() {
        List<String> found = new ArrayList<>();
        for (Method method : WordSenses.class.getDeclaredMethods()) {
            if (!Modifier.isPrivate(method.getModifiers())) {
                Check.due(method.getName() + " is public", Modifier.isPublic(method.getModifiers()), true);
                List<String> types = new ArrayList<>();
                for (Class<?> type : method.getParameterTypes()) {
                    types.add(type.getName());
                }
                found.add(method.getReturnType().getName() + " " + method.getName() + "("
                    + String.join(", ", types) + ")");
            }
        }
        Collections.sort(found);
        Check.due("face: " + found, found.equals(List.of(FACE)), true);
    }

    private static void members() {
        for (Field field : WordSenses.class.getDeclaredFields()) {
            boolean open = !Modifier.isPrivate(field.getModifiers());
            Check.due("open field " + field.getName(), open, field.getName().equals("NONE"));
        }
        noFaceNames(WordSenses.class);
        for (Class<?> inside : WordSenses.class.getDeclaredClasses()) {
            Check.due(inside.getName() + " is static", Modifier.isStatic(inside.getModifiers()), true);
            Check.due(inside.getName() + " is open", Modifier.isPublic(inside.getModifiers()), false);
            noFaceNames(inside);
        }
    }

    /** No private method bears the name of a public one. */
    private static void noFaceNames(Class<?> type) {
        for (Method method : type.getDeclaredMethods()) {
            boolean same = false;
            for (String line : FACE) {
                same |= line.contains(" " + method.getName() + "(");
            }
            Check.due(type.getName() + " " + method.getName() + " bears a name of the face",
                same && Modifier.isPrivate(method.getModifiers()), false);
            Check.due(type.getName() + " " + method.getName() + " has too many parameters",
                method.getParameterCount() > 7, false);
        }
    }

    private static void words() throws IOException {
        String source = Files.readString(Path.of("src/main/java/WordSenses.java"), StandardCharsets.UTF_8);
        String code = source.replaceAll("(?s)/\\*.*?\\*/", " ").replaceAll("//[^\n]*", " ");
        // the arrows of a switch are fine, those of a lambda aren't
        code = code.replaceAll("\\b(case [^:;{}>]*|default\\s*)->", " ");
        for (String word : BARRED) {
            // a name may end in Exact, the other words stand by themselves
            String before = Character.isLowerCase(word.charAt(0)) ? "\\b" : "";
            String after = Character.isLetter(word.charAt(0)) ? "\\b" : "";
            boolean found = Pattern.compile(before + Pattern.quote(word) + after).matcher(code).find();
            Check.due("the code has " + word, found, false);
        }
        String rest = code.replaceAll("import java\\.util\\.(Arrays|ArrayList|List|Iterator);", " ");
        Check.due("another import", Pattern.compile("\\bimport\\b").matcher(rest).find(), false);
        Check.due("a name with its package", Pattern.compile("\\bjavax?\\.").matcher(rest).find(), false);
    }
}
