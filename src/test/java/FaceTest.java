import java.io.IOException;
import java.lang.reflect.Constructor;
import java.lang.reflect.Field;
import java.lang.reflect.Method;
import java.lang.reflect.Modifier;
import java.nio.file.Files;
import java.nio.file.Path;
import java.util.HashSet;
import java.util.Set;
import java.util.TreeSet;

/** The face is the document's and no more, and some rules of LANGUAGE.md that can be counted. */
public final class FaceTest {
    private static final Check check = new Check("FaceTest");
    private static final String FACE = "asked(II) asks(I) able() bridge() breaks(I) burn(II) byteAt(I) book(I) count(I) "
            + "cross(I) cut(I) cutAt(I) days(I) die(I) drawn(II) end(I)Z fault() feed(IIIII) forgers() holds(I) image(I)Z "
            + "keystone() lasts(I) law(II) limit(I) load(II) now(I) odds(III) order() orderAt(I) path(II) plank(III) "
            + "plate(I) restore(I)Z said(I) sentence() sign(III) signer(II) spare(I) surely() tells() told(I) toll(II) "
            + "undo()";
    private static final String[] FORBIDDEN = {"->", "::", "finally", "synchronized", "assert ", "getMessage", "Exact(",
        "catch", "Random", "System.out", "System.currentTimeMillis", "System.nanoTime", "double", "float", "Thread",
        "package ", "HashMap", "String.format", "while (true)", "for (;;)", "@"};

    public static void main(String[] args) throws IOException {
        face();
        classes();
        source(Path.of(args[0], "src/main/java/SignedBridge.java"));
        check.close();
    }

    private static void face() {
        check.due("public and final", SignedBridge.class.getModifiers(), Modifier.PUBLIC | Modifier.FINAL);
        check.due("NONE", SignedBridge.NONE, -1);
        Set<String> got = new TreeSet<>();
        Set<String> names = new HashSet<>();
        for (Method m : SignedBridge.class.getDeclaredMethods()) {
            if (!Modifier.isPrivate(m.getModifiers())) {
                names.add(m.getName());
                got.add(m.getName() + "(" + "I".repeat(m.getParameterCount()) + ")"
                        + (m.getReturnType() == boolean.class ? "Z" : ""));
                check.due(m.getName() + " is public", Modifier.isPublic(m.getModifiers()), true);
            }
        }
        check.dueText("the methods", String.join(" ", got), String.join(" ", new TreeSet<>(Set.of(FACE.split(" ")))));
        for (Method m : SignedBridge.class.getDeclaredMethods()) {
            boolean hidden = Modifier.isPrivate(m.getModifiers());
            check.due(m.getName() + " bears no public name", hidden && names.contains(m.getName()), false);
        }
        for (Field f : SignedBridge.class.getDeclaredFields()) {
            boolean seen = !Modifier.isPrivate(f.getModifiers());
            check.due(f.getName() + " is seen", seen, f.getName().equals("NONE"));
        }
        Constructor<?>[] made = SignedBridge.class.getDeclaredConstructors();
        check.due("one constructor", made.length == 1 && made[0].getParameterCount() == 0, true);
    }

    private static void classes() {
        Set<String> names = new HashSet<>();
        for (Method m : SignedBridge.class.getDeclaredMethods()) {
            if (Modifier.isPublic(m.getModifiers())) {
                names.add(m.getName());
            }
        }
        Class<?>[] inside = SignedBridge.class.getDeclaredClasses();
        check.due("twelve classes at most", inside.length < 12, true);
        fields(SignedBridge.class);
        for (Class<?> c : inside) {
            check.due(c + " is static", Modifier.isStatic(c.getModifiers()), true);
            fields(c);
            for (Method m : c.getDeclaredMethods()) {
                check.due(c + " has no " + m.getName(), names.contains(m.getName()), false);
                check.due(c + "." + m.getName() + " takes seven at most", m.getParameterCount() <= 7, true);
            }
        }
    }

    private static void fields(Class<?> c) {
        int own = 0;
        for (Field f : c.getDeclaredFields()) {
            if (Modifier.isStatic(f.getModifiers())) {
                check.due(c + "." + f.getName() + " is final", Modifier.isFinal(f.getModifiers()), true);
            } else {
                own++;
            }
        }
        check.due(c + " has some twenty fields at most", own <= 20, true);
    }

    private static void source(Path file) throws IOException {
        String text = Files.readString(file);
        for (String word : FORBIDDEN) {
            check.due("the source has " + word, withoutComments(text).contains(word), false);
        }
        int imports = text.split("\nimport ", -1).length - 1 + (text.startsWith("import ") ? 1 : 0);
        check.due("two imports", imports, 2);
        int begin = 0;
        String[] lines = text.split("\n");
        for (int i = 0; i < lines.length; i++) {
            boolean method = lines[i].matches(" {4,8}(?! ).*\\) .*\\{$|^ {4,8}(?! ).*\\) \\{$");
            if (method) {
                begin = i;
            }
            if (lines[i].matches(" {4,8}\\}") && begin > 0) {
                check.due("the method at line " + (begin + 1) + " is short", i - begin <= 60, true);
                begin = 0;
            }
        }
    }

    private static String withoutComments(String text) {
        return text.replaceAll("(?s)/\\*.*?\\*/", "").replaceAll("//[^\n]*", "");
    }
}
