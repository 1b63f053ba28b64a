import java.io.IOException;
import java.lang.reflect.Field;
import java.lang.reflect.Method;
import java.lang.reflect.Modifier;
import java.nio.file.Files;
import java.nio.file.Path;
import java.util.Arrays;
import java.util.Set;
import java.util.TreeSet;
import java.util.regex.Matcher;
import java.util.regex.Pattern;

/** The document's public face, and what of LANGUAGE.md a look at the class and its text can tell. */
public final class FaceTest {
    private static final Check CHECK = new Check("FaceTest");
    private static final Set<String> METHODS = Set.of(
            "int put(int, long)", "int delete(int)", "boolean has(int)", "long get(int)",
            "int reads(int)", "boolean open()", "int commit()", "int abandon()", "int flush()",
            "int crash(int)", "int unflushed()", "int steps()", "int size()", "int pages()",
            "int globalDepth()", "int localDepth(int)", "int buckets()", "int bucketAt(int)",
            "int keyAt(int)");
    private static final Set<Class<?>> CONSTANTS = Set.of(int.class, long.class, boolean.class,
            char.class, String.class, int[].class, long[].class, char[].class, byte[].class);
    private static final Set<String> LIBRARY = Set.of("Math.max", "Math.min", "System.arraycopy");

    public static void main(String[] args) throws IOException {
        Class<?> type = ExtendiblePages.class;
        CHECK.due("modifiers", Modifier.toString(type.getModifiers()), "public final");
        CHECK.due("NONE", ExtendiblePages.NONE, -1);
        CHECK.due("constructors", Arrays.toString(type.getDeclaredConstructors()),
                "[public ExtendiblePages(int)]");
        methodsAreTheDocuments(type);
        fieldsAreTheDocuments(type);
        for (Class<?> inside : type.getDeclaredClasses()) {
            classInsideIsStaticAndNotPublic(inside);
            limitsOfAClass(inside);
        }
        limitsOfAClass(type);
        CHECK.due("at most twelve classes", type.getDeclaredClasses().length + 1 <= 12, true);
        String source = sourceWithoutComments();
        noWordIsLeftOut(source);
        namesAreOwnOrOfTheLibrary(source);
        methodsAreShort(source);
        CHECK.finish();
    }

    private static void methodsAreTheDocuments(Class<?> type) {
        Set<String> seen = new TreeSet<>();
        Set<String> ownNames = new TreeSet<>();
        for (Method method : type.getDeclaredMethods()) {
            if (Modifier.isPrivate(method.getModifiers())) {
                ownNames.add(method.getName());
            } else {
                seen.add(Modifier.toString(method.getModifiers()) + " " + signature(method));
            }
        }
        Set<String> due = new TreeSet<>();
        for (String method : METHODS) {
            due.add("public " + method);
            String name = nameOf(method);
            CHECK.due("a private method named " + name, ownNames.contains(name), false);
        }
        CHECK.due("methods", seen.toString(), due.toString());
    }

    private static String nameOf(String method) {
        return method.replaceAll("\\(.*", "").replaceAll(".* ", "");
    }

    private static String signature(Method method) {
        String parameters = Arrays.toString(method.getParameterTypes());
        return method.getReturnType() + " " + method.getName()
                + "(" + parameters.substring(1, parameters.length() - 1) + ")";
    }

    private static void fieldsAreTheDocuments(Class<?> type) {
        for (Field field : type.getDeclaredFields()) {
            boolean isFace = field.getName().equals("NONE");
            String due = isFace ? "public static final" : "private";
            String seen = Modifier.toString(field.getModifiers());
            CHECK.due("the field " + field, seen.startsWith(due), true);
        }
    }

    /** Rules 1 and 2. */
    private static void classInsideIsStaticAndNotPublic(Class<?> inside) {
        int modifiers = inside.getModifiers();
        CHECK.due(inside + " is static", Modifier.isStatic(modifiers), true);
        CHECK.due(inside + " is public or protected",
                Modifier.isPublic(modifiers) || Modifier.isProtected(modifiers), false);
        for (Method method : inside.getDeclaredMethods()) {
            boolean hasNameOfTheFace = METHODS.stream().anyMatch(m -> nameOf(m).equals(method.getName()));
            CHECK.due("a method of the face's name: " + method, hasNameOfTheFace, false);
        }
    }

    /** Rules 5 and 11. */
    private static void limitsOfAClass(Class<?> type) {
        int fields = 0;
        for (Field field : type.getDeclaredFields()) {
            if (Modifier.isStatic(field.getModifiers())) {
                CHECK.due("final: " + field, Modifier.isFinal(field.getModifiers()), true);
                CHECK.due("of a constant's type: " + field, CONSTANTS.contains(field.getType()), true);
            } else {
                fields++;
            }
        }
        CHECK.due("at most twenty fields in " + type, fields <= 20, true);
        for (Method method : type.getDeclaredMethods()) {
            CHECK.due("at most seven parameters: " + method, method.getParameterCount() <= 7, true);
        }
    }

    private static String sourceWithoutComments() throws IOException {
        return Files.readString(Path.of("src/main/java/ExtendiblePages.java"))
                .replaceAll("(?s)/\\*.*?\\*/", "").replaceAll("//.*", "");
    }

    private static void noWordIsLeftOut(String source) {
        Matcher found = Pattern.compile("\\b(throw|throws|try|catch|synchronized|assert|import|package"
                + "|equals|hashCode|toString)\\b|->|::|Exact\\(").matcher(source);
        while (found.find()) {
            CHECK.due("the program has the word " + found.group(), true, false);
        }
    }

    /** Rule 4, as narrow as the program needs it. */
    private static void namesAreOwnOrOfTheLibrary(String source) {
        Set<String> own = new TreeSet<>(Set.of("ExtendiblePages"));
        for (Class<?> inside : ExtendiblePages.class.getDeclaredClasses()) {
            own.add(inside.getSimpleName());
        }
        Matcher found = Pattern.compile("\\b[A-Z]\\w*[a-z]\\w*(\\.\\w+)?").matcher(source);
        while (found.find()) {
            String name = found.group();
            boolean isFine = own.contains(name.replaceAll("\\..*", "")) || LIBRARY.contains(name);
            CHECK.due("the name " + name + " is own or of the library's part", isFine, true);
        }
    }

    /** Rule 11: from a line that opens a block to the line that closes it. */
    private static void methodsAreShort(String source) {
        Matcher block = Pattern.compile("(?ms)^( {4}| {8})(\\w[^\\n]*\\)) \\{\\n.*?^\\1\\}").matcher(source);
        int blocks = 0;
        while (block.find()) {
            blocks++;
            CHECK.due("at most sixty lines: " + block.group(2), block.group().lines().count() <= 60, true);
        }
        CHECK.due("every method of the face was looked at", blocks >= METHODS.size(), true);
    }
}
