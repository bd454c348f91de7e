import java.util.Random;

/** Texts by chance: most of them as told, some with something wrong in them. */
final class RandomTexts {
    private static final String[] NAMES = {"ana", "benedik", "c", "dov", "evelyn", "fay", "gus", "hal", "ida", "joe"};
    private static final String[] LOADS = {"car", "mule", "lo", "gapgaps", "gap", "barrow"};
    private static final String[] WORDS = ("rows signer forger heir lovers plank load keeps signs breaks holds dies "
            + "burns crosses day or and not dead forged loves follows on earnest planks miles number ana benedik zed car "
            + "mule 0 1 2 3 7 9 12 11 60 61 300 301 999 1000 a1 1a abcdefgh abcdefg ; < = > ( ) . A -").split(" ");
    private final Random random;

    RandomTexts(Random random) {
        this.random = random;
    }

    private int upTo(int n) {
        return random.nextInt(n + 1);
    }

    private String pick(String[] from, int many) {
        return from[random.nextInt(Math.max(1, many))];
    }

    String bridge(int rows, int signers) {
        StringBuilder out = new StringBuilder();
        int density = random.nextInt(100);
        if (rows != 4 || random.nextBoolean()) {
            line(out, "rows " + rows);
        }
        if (random.nextInt(3) > 0) {
            line(out, "keeps " + upTo(random.nextBoolean() ? 3 : 30));
        }
        for (int s = 0; s < signers; s++) {
            line(out, "signer " + NAMES[s] + " " + upTo(9) + " " + (1 + upTo(random.nextBoolean() ? 8 : 2))
                    + (random.nextInt(6) == 0 ? " forger" : ""));
        }
        for (int i = 0; i < signers * 2 / 3; i++) {
            line(out, "heir " + NAMES[i] + " " + NAMES[(i + 1 + upTo(signers - 2)) % signers]);
        }
        for (int i = 0; i + 1 < signers && i < 8; i++) {
            if (random.nextBoolean()) {
                line(out, "lovers " + NAMES[i] + " " + NAMES[i + 1]);
            }
        }
        int[] held = new int[10];
        for (int p = 0; p < 3 * rows && signers > 0; p++) {
            int s = random.nextInt(signers);
            if (held[s] < 6 && random.nextInt(100) < 40 + density) {
                held[s]++;
                line(out, "plank " + NAMES[s] + " " + p / 3 + " " + p % 3);
            }
        }
        int loads = upTo(6);
        for (int l = 0; l < loads; l++) {
            int most = random.nextInt(4) == 0 ? 9 : random.nextBoolean() ? 60 : 200;
            line(out, "load " + LOADS[l] + " " + (1 + random.nextInt(most)) + " " + (1 + random.nextInt(3)));
        }
        return out.toString();
    }

    private void line(StringBuilder out, String text) {
        out.append(text).append(random.nextInt(30) == 0 ? " \n;" : ";").append(random.nextInt(40) == 0 ? "\n" : "");
    }

    String book(int signers, int loads, int rows) {
        StringBuilder out = new StringBuilder();
        int lines = random.nextInt(8) == 0 ? 42 : upTo(8);
        for (int i = 0; i < lines; i++) {
            String who = pick(NAMES, signers);
            switch (random.nextInt(8)) {
                case 0, 1 -> line(out, who + " signs " + upTo(Math.min(11, rows)) + " " + upTo(2));
                case 2 -> line(out, who + " breaks");
                case 3 -> line(out, who + " holds");
                case 4 -> line(out, random.nextInt(3) == 0 ? who + " dies" : "day 1");
                case 5 -> line(out, "burns " + upTo(Math.min(11, rows)) + " " + upTo(2));
                case 6 -> line(out, pick(LOADS, loads) + " crosses");
                default -> line(out, "day " + (1 + upTo(random.nextInt(6) == 0 ? 59 : 3)));
            }
        }
        return out.toString();
    }

    String sentence(int signers) {
        StringBuilder out = new StringBuilder();
        cond(out, signers, random.nextInt(10) == 0 ? 9 : 3);
        return out.toString();
    }

    private void cond(StringBuilder out, int signers, int depth) {
        int many = 1 + random.nextInt(random.nextInt(12) == 0 ? 12 : 2);
        for (int i = 0; i < many; i++) {
            if (i > 0) {
                out.append(random.nextBoolean() ? " or " : " and ");
            }
            one(out, signers, depth);
        }
    }

    private void one(StringBuilder out, int signers, int depth) {
        switch (random.nextInt(depth > 0 ? 8 : 6)) {
            case 0 -> out.append("dead");
            case 1 -> out.append("forged");
            case 2 -> out.append("loves ").append(pick(NAMES, signers));
            case 3 -> out.append("follows ").append(pick(NAMES, signers));
            case 4 -> out.append("on ").append(upTo(11));
            case 5 -> out.append(pick(new String[] {"earnest", "planks", "miles", "number"}, 4))
                    .append(pick(new String[] {"<", "=", ">"}, 3)).append(upTo(9));
            case 6 -> {
                out.append("not ");
                one(out, signers, depth - 1);
            }
            default -> {
                out.append("(");
                cond(out, signers, depth - 1);
                out.append(")");
            }
        }
    }

    /** Some bytes, or some TOKENS, are put in, taken out or written over. */
    String spoil(String text) {
        StringBuilder out = new StringBuilder(text);
        int many = 1 + random.nextInt(2);
        for (int i = 0; i < many; i++) {
            int at = upTo(out.length());
            switch (random.nextInt(5)) {
                case 0 -> out.insert(at, " " + pick(WORDS, WORDS.length) + " ");
                case 1 -> out.insert(at, (char) random.nextInt(256));
                case 2 -> out.delete(at, Math.min(out.length(), at + 1 + upTo(6)));
                case 3 -> {
                    int from = out.lastIndexOf(" ", at);
                    int to = out.indexOf(" ", at);
                    if (from >= 0 && to > from) {
                        out.replace(from, to, " " + pick(WORDS, WORDS.length));
                    }
                }
                default -> out.setLength(at);
            }
        }
        return out.toString();
    }
}
