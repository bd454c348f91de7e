import java.lang.management.ManagementFactory;
import java.lang.reflect.Array;
import java.lang.reflect.Field;
import java.lang.reflect.Modifier;
import java.util.IdentityHashMap;
import java.util.Map;

/** "All calls of one run live in ONE room": what an object is made of, and that its calls make no more. */
public final class RoomTest {
    private static final Check check = new Check("RoomTest");
    private static final int MOST_OBJECTS = 400;
    private static final int MOST_ELEMENTS = 12000;
    /* A plate may make its text longer once or twice; all else is made with the object. */
    private static final long MOST_BYTES = 2000;
    private static final int LENGTH = EdgeTextsTest.fullText().length();

    public static void main(String[] args) throws IllegalAccessException {
        made();
        callsMakeNothing();
        check.close();
    }

    private static void made() throws IllegalAccessException {
        Map<Object, Boolean> seen = new IdentityHashMap<>();
        long elements = count(new SignedBridge(), seen);
        check.due("objects of one bridge: " + seen.size(), seen.size() <= MOST_OBJECTS, true);
        check.due("fields and elements of one bridge: " + elements, elements <= MOST_ELEMENTS, true);
    }

    private static long count(Object o, Map<Object, Boolean> seen) throws IllegalAccessException {
        if (o == null || seen.put(o, true) != null) {
            return 0;
        }
        if (o.getClass().isArray()) {
            long sum = Array.getLength(o);
            if (!o.getClass().getComponentType().isPrimitive()) {
                for (Object element : (Object[]) o) {
                    sum += count(element, seen);
                }
            }
            return sum;
        }
        long sum = 0;
        for (Field f : o.getClass().getDeclaredFields()) {
            boolean own = o.getClass().getName().startsWith("SignedBridge");
            if (own && !Modifier.isStatic(f.getModifiers())) {
                sum++;
                if (!f.getType().isPrimitive()) {
                    f.setAccessible(true);
                    sum += count(f.get(o), seen);
                }
            }
        }
        return sum;
    }

    private static long allocated() {
        return ((com.sun.management.ThreadMXBean) ManagementFactory.getThreadMXBean())
                .getThreadAllocatedBytes(Thread.currentThread().getId());
    }

    private static void callsMakeNothing() {
        int[][] bridge = Tape.feeds(Tape.bytes(EdgeTextsTest.fullText()));
        int[][] book = Tape.feeds(Tape.bytes("day 1;a breaks;k crosses;b dies;burns 0 0;c signs 0 0;           "));
        int[][] sentence = Tape.feeds(Tape.bytes("not (dead or loves a) and not (miles < 3 or on 11)           "));
        // the first rounds are for what the machine makes of classes it has not met yet
        for (int round = 0; round < 3; round++) {
            play(new SignedBridge(), bridge, book, sentence);
        }
        SignedBridge x = new SignedBridge();
        allocated();
        long before = allocated();
        play(x, bridge, book, sentence);
        long made = allocated() - before;
        check.due("bytes made by 500 calls: " + made, made <= MOST_BYTES, true);
    }

    private static void feed(SignedBridge x, int[][] feeds) {
        for (int[] f : feeds) {
            x.feed(f[0], f[1], f[2], f[3], f[4]);
        }
    }

    private static void play(SignedBridge x, int[][] bridge, int[][] book, int[][] sentence) {
        x.end(0);
        feed(x, bridge);
        x.end(LENGTH);
        x.bridge();
        for (int round = 0; round < 8; round++) {
            for (int l = 0; l < 6; l++) {
                x.spare(l);
                x.asks(l);
                x.cut(l);
                x.law(l, 60);
                x.lasts(l);
                x.odds(l, 30, round);
            }
            feed(x, book);
            x.book(1);
            feed(x, sentence);
            x.sentence();
            x.said(-1);
            x.feed(0x00010100, 0x02000300, 0, 0, 0);
            x.end(8);
            x.forgers();
            x.order();
            x.keystone();
            x.plate(round);
            x.drawn(3, round);
            x.image(round % 2);
            x.undo();
            x.restore(round % 2);
        }
    }
}
