import java.util.NoSuchElementException;
import java.util.function.IntSupplier;

/** Counts the answers that are not as due, and tells them. */
final class Check {
    private final String test;
    private int asked;
    private int wrong;

    Check(String test) {
        this.test = test;
    }

    void due(String call, long got, long want) {
        asked++;
        if (got != want) {
            wrong++;
            System.out.println(test + ": " + call + " answered " + got + ", due is " + want);
        }
    }

    void due(String call, boolean got, boolean want) {
        due(call, got ? 1 : 0, want ? 1 : 0);
    }

    void dueText(String call, String got, String want) {
        asked++;
        if (!got.equals(want)) {
            wrong++;
            System.out.println(test + ": " + call + " told " + got + ", due is " + want);
        }
    }

    void dueNoSuch(String call, IntSupplier answer) {
        asked++;
        try {
            int got = answer.getAsInt();
            wrong++;
            System.out.println(test + ": " + call + " answered " + got + ", due is NoSuchElementException");
        } catch (NoSuchElementException e) {
            // as due
        }
    }

    void close() {
        System.out.println(test + ": " + asked + " answers, " + wrong + " wrong");
        System.exit(wrong == 0 && asked > 0 ? 0 : 1);
    }

    /** A new object whose BRIDGE is this text. */
    static SignedBridge bridge(String text) {
        SignedBridge bridge = new SignedBridge();
        Tape.put(bridge, text);
        int lines = bridge.bridge();
        if (lines < 0) {
            throw new IllegalStateException("fault " + bridge.fault() + " at " + (-1 - lines) + " of " + text);
        }
        return bridge;
    }

    static String plate(SignedBridge bridge, int row) {
        StringBuilder out = new StringBuilder();
        int size = bridge.plate(row);
        for (int i = 0; i < size; i++) {
            out.append((char) bridge.byteAt(i));
        }
        return out.toString();
    }
}
