import java.nio.ByteBuffer;
import java.nio.charset.StandardCharsets;
import java.util.Arrays;

/** Feeds texts to a bridge, twenty bytes at a time. */
final class Tape {
    private Tape() {
    }

    static byte[] bytes(String text) {
        return text.getBytes(StandardCharsets.ISO_8859_1);
    }

    /** The numbers of each feed() that puts these bytes (and up to nineteen more, to be cut off by end()). */
    static int[][] feeds(byte[] bytes) {
        int[][] feeds = new int[(bytes.length + 19) / 20][5];
        ByteBuffer all = ByteBuffer.wrap(Arrays.copyOf(bytes, 20 * feeds.length));
        for (int[] feed : feeds) {
            for (int i = 0; i < 5; i++) {
                feed[i] = all.getInt();
            }
        }
        return feeds;
    }

    static void put(SignedBridge bridge, String text) {
        int before = bridge.count(5);
        byte[] bytes = bytes(text);
        for (int[] f : feeds(bytes)) {
            if (bridge.feed(f[0], f[1], f[2], f[3], f[4]) == SignedBridge.NONE) {
                throw new IllegalStateException("the tape of a test is too long");
            }
        }
        bridge.end(before + bytes.length);
    }
}
