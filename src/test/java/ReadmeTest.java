import java.io.IOException;
import java.lang.reflect.InvocationTargetException;
import java.lang.reflect.Method;
import java.lang.reflect.Modifier;
import java.nio.file.Files;
import java.nio.file.Path;
import java.util.Arrays;
import java.util.Set;
import java.util.TreeSet;
import java.util.regex.Matcher;
import java.util.regex.Pattern;

/** README.md: each call that it shows answers what it says there, and it shows every call of the face. */
public final class ReadmeTest {
    private static final String NEW = "AntiDesk desk = new AntiDesk();";
    private static final Pattern CALL = Pattern.compile("desk\\.(\\w+)\\((.*)\\); +// (.*)");
    private static final Pattern TEXT = Pattern.compile("\"(.*)\"");

    private static AntiDesk desk = new AntiDesk();

    public static void main(String[] args) throws IOException, ReflectiveOperationException {
        Set<String> shown = new TreeSet<>();
        for (String line : Files.readAllLines(Path.of("README.md"))) {
            Matcher call = CALL.matcher(line);
            if (line.equals(NEW)) {
                desk = new AntiDesk();
            } else if (call.matches()) {
                shown.add(call.group(1));
                check(line, call.group(1), numbers(call.group(2)), call.group(3).split(": ", 2));
            } else {
                Check.equal("a call without its answer: " + line, line.startsWith("desk."), false);
            }
        }
        Check.equal("the calls shown", shown, face());
        Check.finish();
    }

    private static Set<String> face() {
        Set<String> names = new TreeSet<>();
        for (Method method : AntiDesk.class.getDeclaredMethods()) {
            if (Modifier.isPublic(method.getModifiers())) {
                names.add(method.getName());
            }
        }
        return names;
    }

    private static Object[] numbers(String list) {
        return list.isEmpty() ? new Object[0] : Arrays.stream(list.split(", ")).map(Integer::decode).toArray();
    }

    /** The comment's first part is the answer; a text in quotes behind it is what was typed or written. */
    private static void check(String line, String name, Object[] numbers, String[] comment)
            throws ReflectiveOperationException {
        Check.equal(line, answer(name, numbers), due(comment[0]));
        Matcher text = TEXT.matcher(comment.length > 1 ? comment[1] : "");
        if (name.equals("write") && text.matches()) {
            Check.equal(line, written(text.group(1).length()), text.group(1));
        } else if (name.equals("type") && text.matches()) {
            Check.equal(line, typed(numbers), text.group(1));
        }
    }

    private static String answer(String name, Object[] numbers) throws ReflectiveOperationException {
        Class<?>[] types = new Class<?>[numbers.length];
        Arrays.fill(types, int.class);
        try {
            Object answer = AntiDesk.class.getMethod(name, types).invoke(desk, numbers);
            return answer instanceof Character ? "'" + answer + "'" : answer.toString();
        } catch (InvocationTargetException e) {
            return "throws " + e.getCause().getClass().getSimpleName();
        }
    }

    private static String due(String answer) throws ReflectiveOperationException {
        boolean constant = answer.matches("[A-Z]+");
        return constant ? AntiDesk.class.getField(answer).get(null).toString() : answer;
    }

    private static String written(int length) {
        StringBuilder text = new StringBuilder();
        for (int k = 0; k < length; k++) {
            text.append(desk.output(k));
        }
        return text.toString();
    }

    private static String typed(Object[] numbers) {
        StringBuilder text = new StringBuilder();
        for (Object number : numbers) {
            for (int shift = 24; shift >= 0; shift -= 8) {
                int character = (int) number >>> shift & 255;
                text.append(character == 0 ? "" : String.valueOf((char) character));
            }
        }
        return text.toString();
    }
}
