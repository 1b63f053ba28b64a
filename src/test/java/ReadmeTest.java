import java.io.IOException;
import java.lang.reflect.Method;
import java.lang.reflect.Modifier;
import java.nio.file.Files;
import java.nio.file.Path;
import java.util.regex.Matcher;
import java.util.regex.Pattern;

/** What README.md says of the use of the class. */
public final class ReadmeTest {
    private static final Check CHECK = new Check("ReadmeTest");
    private static final Pattern EXAMPLE = Pattern.compile("(?s)```java\n(.*?)```");
    private static final Pattern MADE = Pattern.compile("new ExtendiblePages\\((\\d+)\\);");
    private static final Pattern CALL = Pattern.compile("store\\.(\\w+)\\((.*)\\); +// ([\\w-]+)");

    public static void main(String[] args) throws IOException, ReflectiveOperationException {
        String readme = Files.readString(Path.of("README.md"));
        everyCallOfTheFaceIsTold(readme);
        Matcher example = EXAMPLE.matcher(readme);
        boolean isThere = example.find();
        CHECK.due("README.md has an example", isThere, true);
        if (isThere) {
            exampleAnswersWhatItSays(example.group(1));
        }
        CHECK.finish();
    }

    private static void everyCallOfTheFaceIsTold(String readme) {
        for (Method method : ExtendiblePages.class.getDeclaredMethods()) {
            if (Modifier.isPublic(method.getModifiers())) {
                boolean isTold = readme.contains("`" + method.getName() + "(");
                CHECK.due("README.md tells of " + method.getName(), isTold, true);
            }
        }
    }

    private static void exampleAnswersWhatItSays(String example) throws ReflectiveOperationException {
        Matcher made = MADE.matcher(example);
        CHECK.due("the example makes a store", made.find(), true);
        ExtendiblePages store = new ExtendiblePages(Integer.parseInt(made.group(1)));
        int lines = 0;
        Matcher call = CALL.matcher(example);
        while (call.find()) {
            lines++;
            String told = call.group(1) + "(" + call.group(2) + ")";
            CHECK.due(told, answer(store, call.group(1), call.group(2)), call.group(3));
        }
        long due = example.lines().filter(line -> line.startsWith("store.")).count();
        CHECK.due("lines of the example with an answer", lines, due);
    }

    private static String answer(ExtendiblePages store, String name, String arguments)
            throws ReflectiveOperationException {
        String[] texts = arguments.isEmpty() ? new String[0] : arguments.split(", ");
        Class<?>[] types = new Class<?>[texts.length];
        Object[] values = new Object[texts.length];
        for (int i = 0; i < texts.length; i++) {
            boolean isLong = texts[i].endsWith("L");
            types[i] = isLong ? long.class : int.class;
            values[i] = isLong ? (Object) Long.valueOf(texts[i].replace("L", "")) : Integer.valueOf(texts[i]);
        }
        return String.valueOf(ExtendiblePages.class.getMethod(name, types).invoke(store, values));
    }
}
