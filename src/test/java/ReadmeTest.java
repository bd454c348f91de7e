import java.io.IOException;
import java.lang.reflect.Method;
import java.nio.file.Files;
import java.nio.file.Path;
import java.util.regex.Matcher;
import java.util.regex.Pattern;

/** README.md's run answers as it says there, and its table has each call of the face. */
public final class ReadmeTest {
    private static final Check check = new Check("ReadmeTest");
    private static final Pattern PUT = Pattern.compile("put\\(x, \"(.*)\"\\);");
    private static final Pattern CALL = Pattern.compile("x\\.(\\w+)\\((.*)\\); +// (-?\\d+)\\b.*");

    public static void main(String[] args) throws IOException, ReflectiveOperationException {
        String text = Files.readString(Path.of(args[0], "README.md"));
        int from = text.indexOf("SignedBridge x = new SignedBridge();\n");
        int calls = play(text.substring(from, text.indexOf("```", from)));
        check.due("a run of some calls", calls > 20, true);
        for (Method m : SignedBridge.class.getDeclaredMethods()) {
            if (java.lang.reflect.Modifier.isPublic(m.getModifiers())) {
                check.due("the table has " + m.getName(), isInTable(text, m.getName()), true);
            }
        }
        check.close();
    }

    private static int play(String run) throws ReflectiveOperationException {
        SignedBridge x = new SignedBridge();
        int calls = 0;
        for (String line : run.split("\n")) {
            Matcher put = PUT.matcher(line);
            Matcher call = CALL.matcher(line);
            if (put.matches()) {
                Tape.put(x, put.group(1));
            } else if (call.matches()) {
                check.due(line, answer(x, call.group(1), call.group(2)), Integer.parseInt(call.group(3)));
                calls++;
            } else {
                check.dueText("a line of the run", line, "SignedBridge x = new SignedBridge();");
            }
        }
        return calls;
    }

    private static int answer(SignedBridge x, String name, String numbers) throws ReflectiveOperationException {
        String[] parts = numbers.isEmpty() ? new String[0] : numbers.split(", ");
        Class<?>[] types = new Class<?>[parts.length];
        Object[] values = new Object[parts.length];
        for (int i = 0; i < parts.length; i++) {
            types[i] = int.class;
            values[i] = Integer.valueOf(parts[i]);
        }
        return (Integer) SignedBridge.class.getMethod(name, types).invoke(x, values);
    }

    private static boolean isInTable(String text, String name) {
        for (String line : text.split("\n")) {
            if (line.startsWith("| ") && line.contains("`" + name + "`")) {
                return true;
            }
        }
        return false;
    }
}
