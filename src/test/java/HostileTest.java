import java.lang.reflect.InvocationTargetException;
import java.lang.reflect.Method;
import java.lang.reflect.Modifier;
import java.util.ArrayList;
import java.util.Comparator;
import java.util.List;
import java.util.NoSuchElementException;
import java.util.Random;

/** Any call with any numbers in any state: nothing but what the document tells is thrown, and that changes nothing. */
public final class HostileTest {
    private static final int[] EDGES = {Integer.MIN_VALUE, Integer.MIN_VALUE + 1, -1000, -2, -1, 0, 1, 2, 3, 4, 5, 6, 9, 10,
        11, 12, 30, 31, 36, 60, 61, 255, 400, 940, Integer.MAX_VALUE - 1, Integer.MAX_VALUE};
    private static final Check check = new Check("HostileTest");

    public static void main(String[] args) throws IllegalAccessException {
        List<Method> face = new ArrayList<>();
        for (Method m : SignedBridge.class.getDeclaredMethods()) {
            if (Modifier.isPublic(m.getModifiers())) {
                face.add(m);
            }
        }
        face.sort(Comparator.comparing(Method::getName));
        for (int run = 0; run < 400; run++) {
            play(new Random(run), face, run);
        }
        check.close();
    }

    private static void play(Random random, List<Method> face, int run) throws IllegalAccessException {
        RandomTexts texts = new RandomTexts(random);
        SignedBridge x = new SignedBridge();
        for (int call = 0; call < 512; call++) {
            if (random.nextInt(40) == 0) {
                x.end(0);
                String text = texts.bridge(1 + random.nextInt(12), random.nextInt(11));
                Tape.put(x, text.length() > 930 ? "" : text);
                x.bridge();
            } else if (random.nextInt(20) == 0) {
                x.end(0);
                Tape.put(x, texts.sentence(x.count(1)).substring(0, 4));
            }
            Method m = face.get(random.nextInt(face.size()));
            Object[] numbers = new Object[m.getParameterCount()];
            for (int i = 0; i < numbers.length; i++) {
                numbers[i] = random.nextInt(3) == 0 ? random.nextInt() : EDGES[random.nextInt(EDGES.length)];
            }
            String thrown = "nothing";
            try {
                m.invoke(x, numbers);
            } catch (InvocationTargetException e) {
                thrown = e.getCause().getClass().getName();
            }
            boolean may = m.getExceptionTypes().length > 0 && thrown.equals(NoSuchElementException.class.getName());
            check.due("run " + run + ": " + m.getName() + " threw " + thrown, thrown.equals("nothing") || may, true);
        }
    }
}
