import java.io.IOException;
import java.lang.reflect.Constructor;
import java.lang.reflect.Field;
import java.lang.reflect.Method;
import java.lang.reflect.Modifier;
import java.nio.file.Files;
import java.nio.file.Path;
import java.util.Set;
import java.util.TreeSet;
import java.util.regex.Pattern;

/** The public face as the document lists it, and the rules of LANGUAGE.md that a text search can see. */
final class FaceTest {
    private static final String[] METHODS = {
        "int person(int) I",
        "int marry(int, int) IA",
        "int child(int) I",
        "int swap(int, int) IA",
        "int byParents(int) I",
        "int untangle(int) I",
        "int append(int) AS",
        "int clearBuffer() ",
        "int firstError() ",
        "int run() A",
        "int keep(int) A",
        "int goBack(int) AS",
        "int undo() S",
        "int personOf(int, int) IA",
        "int coupleOf(int, int) IA",
        "int at(int, int) IA",
        "int crossings(int, int) IA",
        "int count(int) A",
        "int least(int, int) IA",
        "int bestSwap() ",
        "int nearness(int, int) I",
        "double straightShare() ",
        "long digest() ",
    };

    /** What rules 2 to 6 and 10 leave out, and the numbers' constants and bits that rule 4 does not list. */
    private static final String[] LEFT_OUT = {"\\bimport\\b", "\\bpackage\\b", "\\bcatch\\b", "\\bfinally\\b",
        "\\bsynchronized\\b", "\\bassert\\b", "->", "::", "Exact\\b", "\\bDouble\\b", "\\bFloat\\b", "\\bstatic\\s*\\{",
        "M(AX|IN)_VALUE", "\\bequals\\b", "\\bhashCode\\b", "\\btoString\\b", "\\bvar\\b", "\\bObject\\b", "\"\\s*\\+",
        "\\+\\s*\"", "System\\.(?!arraycopy)"};

    private static final Due DUE = new Due();

    private FaceTest() {
    }

    public static void main(String[] args) throws IOException {
        classAndFields();
        constructors();
        methods();
        source(Files.readString(Path.of(System.getProperty("program", "src/main/java/ChronicleRows.java"))));
        DUE.end();
    }

    private static void classAndFields() {
        int modifiers = ChronicleRows.class.getModifiers();
        DUE.same("public and final", Modifier.isPublic(modifiers) && Modifier.isFinal(modifiers), true);
        for (Field field : ChronicleRows.class.getDeclaredFields()) {
            boolean none = field.getName().equals("NONE");
            int want = none ? Modifier.PUBLIC | Modifier.STATIC | Modifier.FINAL : Modifier.PRIVATE;
            int got = none ? field.getModifiers() : field.getModifiers() & Modifier.PRIVATE;
            DUE.same("modifiers of " + field.getName(), got, want);
        }
        for (Class<?> inside : ChronicleRows.class.getDeclaredClasses()) {
            boolean hidden = (inside.getModifiers() & (Modifier.PUBLIC | Modifier.PROTECTED)) == 0;
            DUE.same(inside.getName() + " is hidden and static", hidden && Modifier.isStatic(inside.getModifiers()), true);
        }
    }

    private static void constructors() {
        Constructor<?>[] all = ChronicleRows.class.getDeclaredConstructors();
        DUE.same("constructors", all.length, 1);
        DUE.same("parameters of the constructor", all[0].getParameterCount(), 0);
        DUE.same("a public constructor", Modifier.isPublic(all[0].getModifiers()), true);
    }

    private static void methods() {
        Set<String> publicNames = new TreeSet<>();
        Set<String> publicFaces = new TreeSet<>();
        Set<String> privateNames = new TreeSet<>();
        for (Method method : ChronicleRows.class.getDeclaredMethods()) {
            if (Modifier.isPrivate(method.getModifiers())) {
                privateNames.add(method.getName());
            } else {
                DUE.same(method.getName() + " is public", Modifier.isPublic(method.getModifiers()), true);
                publicNames.add(method.getName());
                publicFaces.add(faceOf(method));
            }
        }
        DUE.same("the face", publicFaces, new TreeSet<>(Set.of(METHODS)));
        privateNames.retainAll(publicNames);
        DUE.same("private methods with names of public ones", privateNames, new TreeSet<String>());
    }

    private static String faceOf(Method method) {
        StringBuilder face = new StringBuilder();
        face.append(method.getReturnType().getName()).append(' ').append(method.getName()).append('(');
        for (Class<?> type : method.getParameterTypes()) {
            face.append(face.charAt(face.length() - 1) == '(' ? "" : ", ").append(type.getName());
        }
        face.append(") ");
        for (Class<?> thrown : method.getExceptionTypes()) {
            face.append(thrown == IndexOutOfBoundsException.class ? "I"
                    : thrown == IllegalArgumentException.class ? "A"
                    : thrown == IllegalStateException.class ? "S" : "?");
        }
        return face.toString();
    }

    private static void source(String text) {
        String code = Pattern.compile("/\\*.*?\\*/|//[^\n]*", Pattern.DOTALL).matcher(text).replaceAll("");
        for (String word : LEFT_OUT) {
            DUE.same("LANGUAGE.md leaves out " + word, Pattern.compile(word).matcher(code).find(), false);
        }
        DUE.same("signs of 1 to 127", text.chars().allMatch(sign -> sign > 0 && sign < 128), true);
    }
}
