/**
 * All that an object lets be seen, as one text: what a call that is refused must leave as it was.
 * It takes some hundred calls, of the 512 that an object is good for.
 */
final class Seen {
    private static final int PLATE_BYTES = 23;

    private Seen() {
    }

    /** The BRIDGE and all that is so. */
    static String state(SignedBridge x) {
        StringBuilder out = new StringBuilder();
        int rows = x.count(0);
        int signers = x.count(1);
        int loads = x.count(2);
        for (int what = 0; what < 5; what++) {
            put(out, x.count(what));
        }
        for (int what = 0; what < 7; what++) {
            put(out, x.now(what));
        }
        for (int s = 0; s < signers; s++) {
            for (int what = 0; what < 8; what++) {
                put(out, x.signer(s, what));
            }
        }
        for (int place = 0; place < 3 * rows; place++) {
            for (int what = 0; what < 3; what++) {
                put(out, x.plank(place / 3, place % 3, what));
            }
        }
        for (int l = 0; l < loads; l++) {
            for (int what = 0; what < 4; what++) {
                put(out, x.load(l, what));
            }
        }
        for (int k = -1; k < signers; k++) {
            put(out, x.said(k));
        }
        return out.toString();
    }

    /** What calls told last. */
    static String told(SignedBridge x) {
        StringBuilder out = new StringBuilder();
        int rows = x.count(0);
        for (int place = 0; place < 3 * rows; place++) {
            put(out, x.asked(place / 3, place % 3));
        }
        for (int i = 0; i < 3; i++) {
            put(out, x.cutAt(i));
        }
        for (int i = 0; i < 6; i++) {
            put(out, x.orderAt(i));
        }
        for (int what = 0; what < 4; what++) {
            put(out, x.told(what));
        }
        for (int i = 0; i < PLATE_BYTES; i++) {
            put(out, x.byteAt(i));
        }
        put(out, x.surely());
        put(out, x.tells());
        put(out, x.fault());
        put(out, x.count(5));
        return out.toString();
    }

    static String all(SignedBridge x) {
        return state(x) + "; " + told(x);
    }

    private static void put(StringBuilder out, int number) {
        out.append(number).append(' ');
    }
}
