import java.lang.reflect.InvocationTargetException;
import java.lang.reflect.Method;
import java.lang.reflect.Modifier;
import java.nio.file.Files;
import java.nio.file.Path;
import java.util.regex.Matcher;
import java.util.regex.Pattern;

/** That README.md tells the truth: its example answers as it says there, and it names every call of the face. */
public final class ReadmeTest {
    private static final Pattern LINE = Pattern.compile("palette\\.(\\w+)\\((.*)\\);\\s*// (.*)");
    private static final Pattern TEXT = Pattern.compile("feed\\(palette, \"([^\"]*)\"\\)");

    private final PaletteTubes palette = new PaletteTubes();

    public static void main(String[] args) throws Exception {
        String readme = Files.readString(Path.of("README.md"));
        Matcher line = LINE.matcher(readme);
        ReadmeTest test = new ReadmeTest();
        int lines = 0;
        while (line.find()) {
            Check.due(line.group(), test.answer(line.group(1), line.group(2)), line.group(3));
            lines++;
        }
        Check.due("lines of the example", lines > 15, true);
        for (Method method : PaletteTubes.class.getDeclaredMethods()) {
            if (Modifier.isPublic(method.getModifiers())) {
                Check.due("README names " + method.getName(), readme.contains('`' + method.getName() + '`'), true);
            }
        }
        Check.end("ReadmeTest");
    }

    private String answer(String name, String told) throws IllegalAccessException {
        Method method = methodNamed(name);
        Object[] arguments = new Object[method.getParameterCount()];
        String[] texts = TEXT.matcher(told).matches() ? new String[] {told} : told.split(", ");
        for (int i = 0; i < arguments.length; i++) {
            arguments[i] = argument(texts[i], method.getParameterTypes()[i]);
        }
        try {
            return String.valueOf(method.invoke(palette, arguments));
        } catch (InvocationTargetException e) {
            return "throws " + e.getCause().getClass().getSimpleName();
        }
    }

    private static Method methodNamed(String name) {
        for (Method method : PaletteTubes.class.getDeclaredMethods()) {
            if (method.getName().equals(name)) {
                return method;
            }
        }
        throw new AssertionError("README calls " + name);
    }

    private Object argument(String text, Class<?> type) {
        Matcher fed = TEXT.matcher(text);
        if (fed.matches()) {
            return Check.feed(palette, fed.group(1));
        }
        return type == boolean.class ? (Object) Boolean.valueOf(text) : Integer.valueOf(text);
    }
}
