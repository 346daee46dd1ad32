import java.io.IOException;
import java.lang.reflect.Method;
import java.nio.file.Files;
import java.nio.file.Path;
import java.util.regex.Matcher;
import java.util.regex.Pattern;

/** The calls that README.md shows, one after another on one object, answer what stands beside them there. */
public final class ReadmeExample {
    private static final Pattern CALL = Pattern.compile("(?m)^m\\.(\\w+)\\(([^)]*)\\); +// (-?\\d+): (.*)$");

    private static Method methodOf(String name) {
        for (Method method : FoldedMap.class.getMethods()) {
            if (method.getName().equals(name) && method.getDeclaringClass() == FoldedMap.class) {
                return method;
            }
        }
        throw new IllegalArgumentException("README.md shows a call that is none: " + name);
    }

    private static long answerOf(FoldedMap m, String name, String told) throws ReflectiveOperationException {
        Method method = methodOf(name);
        String[] words = told.isEmpty() ? new String[0] : told.split(", ");
        Object[] numbers = new Object[words.length];
        for (int i = 0; i < words.length; i++) {
            long number = Long.decode(words[i].replace("L", ""));
            numbers[i] = method.getParameterTypes()[i] == long.class ? (Object) number : (Object) (int) number;
        }
        return ((Number) method.invoke(m, numbers)).longValue();
    }

    /** The text beside a type() is what its bytes are. */
    private static void dueBytes(String told, String beside) {
        String[] words = told.split(", ");
        long v = Long.decode(words[0].replace("L", ""));
        StringBuilder bytes = new StringBuilder("\"");
        for (int i = Integer.parseInt(words[1]) - 1; i >= 0; i--) {
            bytes.append((char) (v >> 8 * i & 255));
        }
        Check.due("the text beside type(" + told + ")", bytes.append('"').toString(), beside);
    }

    public static void main(String[] args) throws IOException, ReflectiveOperationException {
        String page = Files.readString(Path.of("README.md"));
        Check.sentence("The public face");
        FoldedMap m = new FoldedMap();
        Matcher call = CALL.matcher(page);
        int calls = 0;
        while (call.find()) {
            calls++;
            String shown = call.group(1) + "(" + call.group(2) + ")";
            Check.due(shown, answerOf(m, call.group(1), call.group(2)), Long.parseLong(call.group(3)));
            if (call.group(1).equals("type")) {
                dueBytes(call.group(2), call.group(4));
            }
        }
        Check.due("calls that are read", calls, page.split("\nm\\.").length - 1);
        Check.due("how many they are", Math.min(calls, 20), 20);
        Check.end();
    }
}
