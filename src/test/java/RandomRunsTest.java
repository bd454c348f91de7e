import java.util.ArrayList;
import java.util.List;
import java.util.NoSuchElementException;
import java.util.Random;

/** Runs of calls by chance, each answer held against SlowBridge. */
public final class RandomRunsTest {
    private static final int THROWN = Integer.MIN_VALUE;
    private final Random random;
    private final RandomTexts texts;
    private final SignedBridge fast = new SignedBridge();
    private final SlowBridge slow = new SlowBridge();
    private final List<String> calls = new ArrayList<>();
    private final boolean small;
    private boolean good = true;

    private RandomRunsTest(long seed) {
        random = new Random(seed);
        texts = new RandomTexts(random);
        small = random.nextInt(3) > 0;
    }

    public static void main(String[] args) {
        int runs = args.length > 1 ? Integer.parseInt(args[1]) : 1500;
        int first = args.length > 2 ? Integer.parseInt(args[2]) : 1;
        int wrong = 0;
        for (int seed = first; seed < first + runs && wrong < 5; seed++) {
            RandomRunsTest run = new RandomRunsTest(seed);
            if (!run.play()) {
                wrong++;
                System.out.println("seed " + seed + ":");
                run.calls.forEach(call -> System.out.println("  " + call));
            }
        }
        System.out.println(wrong == 0 ? runs + " runs by chance are as due" : wrong + " runs are not as due");
        System.exit(wrong == 0 ? 0 : 1);
    }

    private boolean play() {
        if (random.nextInt(10) > 0) {
            newBridge(false);
        }
        // a step takes a hundred calls at most, so that an object stays within its 512
        int many = 100 + random.nextInt(300);
        while (calls.size() < many && good) {
            step();
        }
        return good;
    }

    private void due(String call, int got, int want) {
        calls.add(call + " answered " + got);
        if (got != want) {
            good = false;
            calls.add(call + ": due is " + want);
        }
    }

    private static int bit(boolean b) {
        return b ? 1 : 0;
    }

    private void put(String text) {
        byte[] bytes = Tape.bytes(text);
        if (bytes.length > 940) {
            bytes = java.util.Arrays.copyOf(bytes, 940);
        }
        for (int[] f : Tape.feeds(bytes)) {
            due("feed", fast.feed(f[0], f[1], f[2], f[3], f[4]), slow.feed(f[0], f[1], f[2], f[3], f[4]));
        }
        due("end(" + bytes.length + ") of " + text.replace('\n', '/'), bit(fast.end(bytes.length)),
                bit(slow.end(bytes.length)));
    }

    private void clearTape() {
        due("end(0)", bit(fast.end(0)), bit(slow.end(0)));
    }

    private String padded(String text, int most) {
        if (random.nextInt(8) > 0) {
            return text;
        }
        StringBuilder out = new StringBuilder(text);
        while (out.length() < most - 3 + random.nextInt(8)) {
            out.insert(random.nextBoolean() ? out.length() : out.lastIndexOf(" ") + 1, ' ');
        }
        return out.toString();
    }

    private void newBridge(boolean spoilt) {
        int rows = small ? 1 + random.nextInt(4) : 5 + random.nextInt(8);
        int signers = small ? random.nextInt(6) : random.nextInt(11);
        String text = padded(texts.bridge(rows, signers), 900);
        clearTape();
        put(spoilt ? texts.spoil(text) : text);
        due("bridge()", fast.bridge(), slow.bridge());
        due("fault()", fast.fault(), slow.fault());
        for (int what = 0; what < 7; what++) {
            due("count(" + what + ")", fast.count(what), slow.count(what));
        }
    }

    private int near(int n) {
        int chance = random.nextInt(12);
        return chance == 0 ? -1 : chance == 1 ? n : random.nextInt(Math.max(1, n));
    }

    private int row() {
        return near(slow.count(0));
    }

    private int signer() {
        return near(slow.count(1));
    }

    private int load() {
        return near(slow.count(2));
    }

    private void step() {
        int kind = random.nextInt(16);
        if (kind < 7) {
            act(random.nextInt(9));
        } else if (kind < 13) {
            ask(random.nextInt(24));
        } else if (kind < 15) {
            read(random.nextInt(6));
        } else {
            rare(random.nextInt(9));
        }
        look();
    }

    private void act(int which) {
        int s = signer();
        int r = row();
        int k = near(3);
        int l = load();
        int n = random.nextInt(5) == 0 ? random.nextInt(64) - 1 : 1 + random.nextInt(3);
        int seed = random.nextInt();
        String place = "(" + r + ", " + k + ")";
        switch (which) {
            case 0, 8 -> due("sign(" + s + ", " + place, fast.sign(s, r, k), slow.sign(s, r, k));
            case 1 -> due("burn" + place, fast.burn(r, k), slow.burn(r, k));
            case 2 -> due("breaks(" + s + ")", fast.breaks(s), slow.breaks(s));
            case 3 -> due("holds(" + s + ")", fast.holds(s), slow.holds(s));
            case 4 -> due("die(" + s + ")", fast.die(s), slow.die(s));
            case 5 -> due("cross(" + l + ")", fast.cross(l), slow.cross(l));
            case 6 -> due("days(" + n + ")", fast.days(n), slow.days(n));
            default -> {
                if (random.nextInt(4) == 0) {
                    due("drawn(" + n + ", " + seed + ")", fast.drawn(n, seed), slow.drawn(n, seed));
                } else {
                    due("undo()", fast.undo(), slow.undo());
                }
            }
        }
    }

    private void ask(int which) {
        int l = load();
        int s = signer();
        int r = row();
        int k = near(3);
        int n = random.nextInt(4) == 0 ? random.nextInt(64) - 1 : random.nextInt(12);
        String ofLoad = "(" + l + ")";
        switch (which) {
            case 0 -> due("spare" + ofLoad, fast.spare(l), slow.spare(l));
            case 1 -> due("path(" + l + ", " + r + ")", fast.path(l, r), slow.path(l, r));
            case 2 -> due("limit(" + (k + 1) + ")", fast.limit(k + 1), slow.limit(k + 1));
            case 3, 4 -> {
                due("asks" + ofLoad, fast.asks(l), slow.asks(l));
                for (int i = 0; i < 3 * slow.count(0); i++) {
                    due("asked(" + i + ")", fast.asked(i / 3, i % 3), slow.asked(i / 3, i % 3));
                }
            }
            case 5 -> due("keystone()", fast.keystone(), slow.keystone());
            case 6 -> due("able()", fast.able(), slow.able());
            case 7, 8 -> {
                due("cut" + ofLoad, fast.cut(l), slow.cut(l));
                for (int i = -1; i < 4; i++) {
                    due("cutAt(" + i + ")", fast.cutAt(i), slow.cutAt(i));
                }
            }
            case 9 -> {
                due("order()", fast.order(), slow.order());
                for (int i = -1; i < 7; i++) {
                    due("orderAt(" + i + ")", fast.orderAt(i), slow.orderAt(i));
                }
            }
            case 10, 11, 12 -> due("law(" + l + ", " + n + ")", fast.law(l, n), slow.law(l, n));
            case 13, 14, 15 -> due("lasts" + ofLoad, fast.lasts(l), slow.lasts(l));
            case 16, 17 -> due("toll(" + s + ", " + l + ")", fast.toll(s, l), slow.toll(s, l));
            case 18 -> {
                due("plate(" + r + ")", fast.plate(r), slow.plate(r));
                for (int i = -1; i < 24; i++) {
                    due("byteAt(" + i + ")", fast.byteAt(i), slow.byteAt(i));
                }
            }
            case 19 -> due("odds", fast.odds(l, n / 4, n * 77777), slow.odds(l, n / 4, n * 77777));
            case 20 -> due("tells()", fast.tells(), slow.tells());
            case 21 -> due("surely()", fast.surely(), slow.surely());
            default -> due("said(" + (s - 1) + ")", fast.said(s - 1), slow.said(s - 1));
        }
    }

    private void read(int which) {
        clearTape();
        boolean spoilt = random.nextInt(3) == 0;
        if (which < 2) {
            String text = padded(texts.book(slow.count(1), slow.count(2), slow.count(0)), 400);
            put(spoilt ? texts.spoil(text) : text);
            int lives = near(2);
            due("book(" + lives + ")", fast.book(lives), slow.book(lives));
            for (int what = -1; what < 5; what++) {
                due("told(" + what + ")", fast.told(what), slow.told(what));
            }
        } else if (which < 4) {
            String text = padded(texts.sentence(slow.count(1)), 200);
            put(spoilt ? texts.spoil(text) : text);
            due("sentence()", fast.sentence(), slow.sentence());
            for (int k = -2; k < 7; k++) {
                due("said(" + k + ")", fast.said(k), slow.said(k));
            }
        } else {
            StringBuilder pairs = new StringBuilder();
            int many = random.nextInt(10) == 0 ? random.nextInt(9) : 1 + random.nextInt(2);
            for (int i = 0; i < many; i++) {
                pairs.append((char) (load() & 255)).append((char) near(2));
            }
            put(pairs.substring(0, pairs.length() - (random.nextInt(20) == 0 && many > 0 ? 1 : 0)).replace('\uffff', (char) 255));
            due("forgers()", fast.forgers(), slow.forgers());
            due("surely()", fast.surely(), slow.surely());
            due("tells()", fast.tells(), slow.tells());
        }
        due("fault()", fast.fault(), slow.fault());
        due("count(5)", fast.count(5), slow.count(5));
    }

    private void rare(int which) {
        int k = near(2);
        switch (which) {
            case 0, 1 -> due("image(" + k + ")", bit(fast.image(k)), bit(slow.image(k)));
            case 2, 3 -> due("restore(" + k + ")", bit(fast.restore(k)), bit(slow.restore(k)));
            case 4 -> newBridge(random.nextBoolean());
            case 5, 6 -> newBridge(true);
            case 7 -> {
                int many = random.nextInt(8);
                for (int i = 0; i < many; i++) {
                    due("days(60)", fast.days(60), slow.days(60));
                }
            }
            default -> {
                int n = random.nextInt(945) - 2;
                int f = random.nextInt();
                due("feed", fast.feed(f, ~f, 0, 1, f), slow.feed(f, ~f, 0, 1, f));
                due("end(" + n + ")", bit(fast.end(n)), bit(slow.end(n)));
                if (random.nextInt(20) == 0) {
                    for (int i = 0; i < 48; i++) {
                        due("feed", fast.feed(f, f, f, f, i), slow.feed(f, f, f, f, i));
                    }
                }
            }
        }
    }

    private interface Throwing {
        int answer();
    }

    private static int orThrown(Throwing call) {
        try {
            return call.answer();
        } catch (NoSuchElementException e) {
            return THROWN;
        }
    }

    private void look() {
        int what = near(9);
        int s = signer();
        int r = row();
        int k = near(3);
        int l = load();
        due("now(" + what + ")", fast.now(what), slow.now(what));
        due("signer(" + s + ", " + what + ")", orThrown(() -> fast.signer(s, what)),
                orThrown(() -> slow.signer(s, what)));
        due("plank(" + r + ", " + k + ", " + what / 2 + ")", orThrown(() -> fast.plank(r, k, what / 2)),
                orThrown(() -> slow.plank(r, k, what / 2)));
        due("load(" + l + ", " + what + ")", orThrown(() -> fast.load(l, what)), orThrown(() -> slow.load(l, what)));
    }
}
