import java.io.IOException;
import java.lang.reflect.Method;
import java.lang.reflect.Modifier;
import java.nio.file.Files;
import java.nio.file.Path;
import java.util.regex.Matcher;
import java.util.regex.Pattern;

/** README.md tells the truth: its example answers what stands behind each call, and it names every call. */
public final class ReadmeTest {
    private static final Path README = Path.of("README.md");
    private static final String NEW_STREAM = "SluiceStream x = new SluiceStream();";
    private static final Pattern CALL = Pattern.compile("x\\.(\\w+)\\(([^)]*)\\);\\s+// ([^:]+).*");
    private static final int LEAST_CALLS = 10;

    public static void main(String[] args) throws IOException {
        String text = Files.readString(README);
        example(text);
        namesEveryCall(text);
        Check.close(ReadmeTest.class);
    }

    private static void example(String text) {
        SluiceStream x = new SluiceStream();
        int calls = 0;
        boolean hasNew = false;
        for (String line : text.lines().toList()) {
            hasNew |= line.equals(NEW_STREAM);
            if (line.startsWith("x.")) {
                Matcher call = CALL.matcher(line);
                boolean isCall = call.matches();
                Check.due("README is a call with its answer: " + line, isCall, true);
                if (isCall) {
                    Check.due("README: " + line, answer(x, call.group(1), call.group(2)), call.group(3));
                    calls++;
                }
            }
        }
        Check.due("README has an example", hasNew && calls >= LEAST_CALLS, true);
    }

    private static String answer(SluiceStream x, String name, String list) {
        String[] texts = list.isEmpty() ? new String[0] : list.split(", ");
        Class<?>[] types = new Class<?>[texts.length];
        Object[] arguments = new Object[texts.length];
        for (int i = 0; i < texts.length; i++) {
            types[i] = int.class;
            arguments[i] = Integer.valueOf(texts[i]);
        }
        try {
            return String.valueOf(SluiceStream.class.getMethod(name, types).invoke(x, arguments));
        } catch (ReflectiveOperationException e) {
            return e.toString();
        }
    }

    private static void namesEveryCall(String text) {
        for (Method m : SluiceStream.class.getDeclaredMethods()) {
            if (Modifier.isPublic(m.getModifiers())) {
                Check.due("README names " + m.getName(), text.contains("`" + m.getName() + "("), true);
            }
        }
    }
}
