import java.io.IOException;
import java.lang.reflect.Field;
import java.lang.reflect.Method;
import java.lang.reflect.Modifier;
import java.nio.file.Files;
import java.nio.file.Path;
import java.util.Arrays;
import java.util.Set;
import java.util.TreeSet;
import java.util.regex.Matcher;
import java.util.regex.Pattern;

/** The document's public face, and the words that LANGUAGE.md leaves out of the program. */
public final class FaceTest {
    private static final Check CHECK = new Check("FaceTest");
    private static final Set<String> METHODS = Set.of(
            "int put(int, long)", "int delete(int)", "boolean has(int)", "long get(int)",
            "int reads(int)", "boolean open()", "int commit()", "int abandon()", "int flush()",
            "int crash(int)", "int unflushed()", "int steps()", "int size()", "int pages()",
            "int globalDepth()", "int localDepth(int)", "int buckets()", "int bucketAt(int)",
            "int keyAt(int)");

    public static void main(String[] args) throws IOException {
        Class<?> type = ExtendiblePages.class;
        CHECK.due("modifiers", Modifier.toString(type.getModifiers()), "public final");
        CHECK.due("NONE", ExtendiblePages.NONE, -1);
        CHECK.due("constructors", Arrays.toString(type.getDeclaredConstructors()),
                "[public ExtendiblePages(int)]");
        methodsAreTheDocuments(type);
        fieldsAreTheDocuments(type);
        noWordIsLeftOut();
        CHECK.finish();
    }

    private static void methodsAreTheDocuments(Class<?> type) {
        Set<String> seen = new TreeSet<>();
        Set<String> ownNames = new TreeSet<>();
        for (Method method : type.getDeclaredMethods()) {
            if (Modifier.isPrivate(method.getModifiers())) {
                ownNames.add(method.getName());
            } else {
                seen.add(Modifier.toString(method.getModifiers()) + " " + signature(method));
            }
        }
        Set<String> due = new TreeSet<>();
        for (String method : METHODS) {
            due.add("public " + method);
            String name = method.replaceAll("\\(.*", "").replaceAll(".* ", "");
            CHECK.due("a private method named " + name, ownNames.contains(name), false);
        }
        CHECK.due("methods", seen.toString(), due.toString());
    }

    private static String signature(Method method) {
        String parameters = Arrays.toString(method.getParameterTypes());
        return method.getReturnType() + " " + method.getName()
                + "(" + parameters.substring(1, parameters.length() - 1) + ")";
    }

    private static void fieldsAreTheDocuments(Class<?> type) {
        for (Field field : type.getDeclaredFields()) {
            boolean isFace = field.getName().equals("NONE");
            String due = isFace ? "public static final" : "private";
            String seen = Modifier.toString(field.getModifiers());
            CHECK.due("the field " + field, seen.startsWith(due), true);
        }
    }

    private static void noWordIsLeftOut() throws IOException {
        String source = Files.readString(Path.of("src/main/java/ExtendiblePages.java"))
                .replaceAll("(?s)/\\*.*?\\*/", "").replaceAll("//.*", "");
        Matcher found = Pattern.compile("\\b(throw|throws|try|catch|synchronized|assert|import|package"
                + "|equals|hashCode|toString)\\b|->|::|Exact\\(").matcher(source);
        while (found.find()) {
            CHECK.due("the program has the word " + found.group(), true, false);
        }
    }
}
