/** Promises 18 to 22, 24 and 34: PATHS, limits, whom to ask, tolls. */
public final class PathsTest {
    private static final Check check = new Check("PathsTest");

    public static void main(String[] args) {
        safest();
        firstOfLikeOnes();
        steps();
        jumps();
        noSuch();
        limits();
        asking();
        askingFirst();
        askingLovers();
        askingWhoMay();
        askingKept();
        able();
        tolls();
        check.close();
    }

    private static void path(SignedBridge x, int l, int spare, String steps) {
        check.due("spare(" + l + ")", x.spare(l), spare);
        StringBuilder got = new StringBuilder();
        for (int row = 0; row < x.count(0); row++) {
            got.append(x.path(l, row)).append(' ');
        }
        check.dueText("path of " + l, got.toString().trim(), steps);
    }

    private static void safest() {
        SignedBridge x = Check.bridge("rows 2;signer a 5 1;signer b 8 1;signer c 2 1;plank a 0 0;plank b 0 1;plank c 0 2;"
                + "plank c 1 0;plank a 1 1;plank b 1 2;load p 15 1;load q 60 2;load r 150 3;load s 151 3;load t 100 2;"
                + "load u 131 2;");
        // row 0 bears 50 80 20, row 1 bears 20 50 80
        path(x, 0, 65, "1 2");
        path(x, 1, 70, "0 1");
        path(x, 2, 0, "0 0");
        path(x, 3, -1, "-1 -1");
        path(x, 4, 30, "0 1");
        path(x, 5, -1, "-1 -1");
        x.breaks(1);
        // now row 0 bears 50 40 20, row 1 bears 20 50 40
        path(x, 0, 35, "0 1");
        x.burn(1, 1);
        // row 1 bears 15 gap 35
        path(x, 0, 20, "1 2");
        path(x, 1, -1, "-1 -1");
        x.cross(3);
        path(x, 3, -1, "-1 -1");
    }

    private static void firstOfLikeOnes() {
        SignedBridge x = Check.bridge("rows 3;signer a 3 1;signer b 3 1;plank a 0 0;plank a 0 1;plank a 0 2;plank b 1 1;"
                + "plank b 1 2;plank b 2 0;plank b 2 1;plank b 2 2;load p 10 1;");
        path(x, 0, 20, "0 1 0");
        x.burn(1, 1);
        // the neighbour is singed: 25 there; from K 2 on only 1 and 2 are near
        path(x, 0, 15, "1 2 1");
        SignedBridge y = Check.bridge("rows 2;signer a 9 1;signer b 3 1;plank b 0 0;plank a 0 2;plank b 1 1;load p 30 1;");
        path(y, 0, 0, "0 1");
    }

    private static void steps() {
        SignedBridge x = Check.bridge("rows 2;signer a 3 1;plank a 0 0;plank a 1 2;load p 30 1;load q 9 1;");
        path(x, 0, -1, "-1 -1");
        path(x, 1, 21, "0 3");
    }

    private static void jumps() {
        SignedBridge x = Check.bridge("rows 1;load p 9 3;load q 10 1;");
        path(x, 0, 999, "3");
        path(x, 1, -1, "-1");
        SignedBridge y = Check.bridge("rows 4;signer a 3 1;signer b 0 1;plank a 1 0;plank b 2 0;plank a 2 2;plank a 3 0;"
                + "load p 9 1;load q 10 1;");
        // a jump, K 0, a jump, K 0; and not from K 0 to K 2
        path(y, 0, 21, "3 0 3 0");
        path(y, 1, -1, "-1 -1 -1 -1");
        y.burn(1, 0);
        path(y, 0, -1, "-1 -1 -1 -1");
        SignedBridge z = Check.bridge("rows 3;signer a 3 1;plank a 0 0;plank a 2 2;load p 9 1;");
        path(z, 0, 21, "0 3 2");
        SignedBridge w = Check.bridge("rows 2;signer a 9 1;plank a 0 0;plank a 0 1;load p 9 1;");
        path(w, 0, 81, "0 3");
        // a plank that bears nothing is none for a load
        SignedBridge f = Check.bridge("rows 2;signer a 0 1;plank a 0 0;plank a 1 0;load p 1 1;");
        path(f, 0, -1, "-1 -1");
    }

    private static void noSuch() {
        SignedBridge x = Check.bridge("rows 1;signer a 9 1;plank a 0 0;load p 9 1;");
        check.due("spare(1)", x.spare(1), -1);
        check.due("spare(-1)", x.spare(-1), -1);
        check.due("path(0, 1)", x.path(0, 1), -1);
        check.due("path(0, -1)", x.path(0, -1), -1);
        check.due("path(1, 0)", x.path(1, 0), -1);
        check.due("path(-1, 0)", x.path(-1, 0), -1);
    }

    private static void limits() {
        SignedBridge x = Check.bridge("rows 2;signer a 9 1;signer b 4 1;lovers a b;plank a 0 0;plank b 0 1;plank a 0 2;"
                + "plank b 1 0;plank a 1 1;plank b 1 2;");
        // row 0 bears 95 50 95, row 1 bears 45 100 45
        check.due("limit(1)", x.limit(1), 95);
        check.due("limit(2)", x.limit(2), 145);
        check.due("limit(3)", x.limit(3), 190);
        check.due("limit(0)", x.limit(0), -1);
        check.due("limit(4)", x.limit(4), -1);
        x.burn(0, 0);
        x.burn(0, 2);
        // row 0: 40 less 10 alone in the middle
        check.due("limit(1) by one plank", x.limit(1), 30);
        check.due("limit(2) by one plank", x.limit(2), 0);
        x.burn(0, 1);
        check.due("limit(1) without a row", x.limit(1), 0);
        SignedBridge one = Check.bridge("rows 1;load p 1 1;");
        check.due("a jump does not count", one.limit(1), 0);
        SignedBridge low = Check.bridge("rows 1;signer a 1 1;signer b 0 1;lovers a b;plank b 0 0;plank a 0 1;");
        low.burn(0, 1);
        check.due("singed to 0", low.limit(1), 0);
        low.undo();
        check.due("lovers by 5", low.limit(1), 15);
        check.due("lovers both", low.limit(2), 20);
    }

    private static void asks(SignedBridge x, int l, int miles, String who) {
        check.due("asks(" + l + ")", x.asks(l), miles);
        StringBuilder got = new StringBuilder();
        for (int p = 0; p < 3 * x.count(0); p++) {
            int s = x.asked(p / 3, p % 3);
            got.append(s < 0 ? "-" : String.valueOf(s));
        }
        check.dueText("asked by asks(" + l + ")", got.toString(), who);
    }

    private static void asking() {
        SignedBridge x = Check.bridge("rows 2;signer a 2 1;signer b 5 4;signer c 9 9;plank b 0 1;"
                + "load p 20 1;load q 50 1;load r 60 2;load s 150 3;load t 271 3;load u 5 1;");
        asks(x, 0, 1, "---0--");
        asks(x, 1, 4, "---1--");
        // row 0: b and a; row 1: a and b, or b and a: 1 and 4, the first is a
        asks(x, 2, 6, "0--01-");
        // row 0: b and two for 100: b b (8), a c (10), c a: b b; row 1: 150 by b b b (12)
        asks(x, 3, 20, "1-1111");
        asks(x, 5, 0, "------");
        check.due("271 can't be", x.asks(4), -1);
        check.due("the latest stays", x.asked(0, 0), -1);
        asks(x, 0, 1, "---0--");
        check.due("asks(4) again", x.asks(4), -1);
        check.due("asks(6)", x.asks(6), -1);
        check.due("asks(-1)", x.asks(-1), -1);
        check.due("the latest that was one", x.asked(1, 0), 0);
        check.due("asked(2, 0)", x.asked(2, 0), -1);
        check.due("asked(0, 3)", x.asked(0, 3), -1);
        check.due("asked(-1, 0)", x.asked(-1, 0), -1);
        check.due("asked(0, -1)", x.asked(0, -1), -1);
        check.due("ahead of any", new SignedBridge().asked(0, 0), -1);
        check.due("nothing was signed", x.now(2), 1);
    }

    private static void askingFirst() {
        // of like ones the least K row by row, then the least signers
        SignedBridge x = Check.bridge("rows 3;signer a 3 2;signer b 3 2;plank b 1 2;load p 30 1;load q 60 2;load h 9 1;");
        asks(x, 0, 4, "-0----" + "-0-");
        asks(x, 1, 10, "00--0-00-");
        // a jump costs nothing and is K 3: row 0 is jumped, row 1 has a plank, row 2 is jumped
        asks(x, 2, 0, "---------");
        SignedBridge y = Check.bridge("rows 2;signer a 3 2;load h 9 1;");
        asks(y, 0, 2, "0-----");
    }

    private static void askingLovers() {
        // 30 each, 5 more for each lover beside
        SignedBridge x = Check.bridge("rows 1;signer a 3 1;signer b 3 3;lovers a b;load p 60 2;load q 70 2;load r 110 3;"
                + "load s 95 3;");
        asks(x, 0, 2, "00-");
        asks(x, 1, 4, "01-");
        asks(x, 2, 5, "010");
        // a a b: 30 + 35 + 35 = 100
        asks(x, 3, 5, "001");
        // a forger bears nothing, but is a lover all the same
        SignedBridge y = Check.bridge("rows 1;signer a 3 9;signer f 9 1 forger;lovers a f;plank a 0 0;load p 35 2;"
                + "load q 35 1;load r 1 1;");
        asks(y, 0, 1, "-1-");
        check.due("one alone is not beside", y.asks(1), -1);
        // the lover beside the place that is signed is counted, too
        SignedBridge z = Check.bridge("rows 1;signer a 3 1;signer b 3 2;lovers a b;plank a 0 0;load p 35 1;");
        asks(z, 0, 2, "-1-");
    }

    private static void askingWhoMay() {
        SignedBridge x = Check.bridge("rows 3;signer a 3 1;signer b 3 2;plank a 0 0;plank a 0 1;plank a 0 2;plank a 1 0;"
                + "plank a 1 1;plank a 1 2;load p 30 1;load q 90 3;");
        asks(x, 1, 3, "------000");
        x.die(0);
        asks(x, 1, 6, "------111");
        x.die(1);
        check.due("nobody lives", x.asks(1), -1);
        SignedBridge y = Check.bridge("rows 1;load p 30 1;load q 3 1;");
        check.due("no signers", y.asks(0), -1);
        asks(y, 1, 0, "---");
        // planks that are there stay: too weak for it
        SignedBridge z = Check.bridge("rows 1;signer a 1 1;signer b 9 1;plank a 0 0;plank a 0 1;plank a 0 2;load p 11 1;");
        check.due("no gap", z.asks(0), -1);
        // the places behind K are of one row
        SignedBridge edge = Check.bridge("rows 2;signer a 1 5;signer b 9 1;plank b 0 2;plank b 1 0;plank b 1 1;plank b 1 2;"
                + "load p 20 2;");
        asks(edge, 0, 1, "-1----");
        edge.die(1);
        asks(edge, 0, 5, "-0----");
        // a singed plank stays singed
        SignedBridge w = Check.bridge("rows 1;signer a 3 1;plank a 0 0;plank a 0 1;plank a 0 2;load p 55 2;load q 60 2;");
        w.burn(0, 1);
        asks(w, 0, 1, "-0-");
        check.due("60 would be too much", w.asks(1), -1);
    }

    private static void askingKept() {
        SignedBridge x = Check.bridge("rows 1;signer a 3 1;load p 30 1;");
        asks(x, 0, 1, "0--");
        x.sign(0, 0, 0);
        check.due("asked stays", x.asked(0, 0), 0);
        x.image(0);
        x.bridge();
        x.restore(0);
        check.due("asked stays behind a restore", x.asked(0, 0), 0);
        asks(x, 0, 0, "---");
    }

    private static void able() {
        SignedBridge x = Check.bridge("rows 1;signer a 3 1;plank a 0 0;load p 30 1;load q 31 1;load r 9 3;");
        check.due("able()", x.able(), 2);
        x.cross(1);
        check.due("able() without a plank", x.able(), 1);
        x.undo();
        check.due("able() again", x.able(), 2);
        SignedBridge y = Check.bridge("rows 2;signer a 3 1;plank a 0 0;load p 30 1;");
        y.cross(0);
        y.sign(0, 1, 0);
        y.sign(0, 0, 0);
        check.due("the fallen has a path", y.spare(0), 0);
        check.due("but is not able", y.able(), 0);
        check.due("no loads", new SignedBridge().able(), 0);
    }

    private static void tolls() {
        SignedBridge x = Check.bridge("rows 3;signer a 3 1;signer b 4 1;plank a 0 0;plank b 0 1;plank a 1 0;plank b 1 1;"
                + "plank b 1 2;plank b 2 1;plank a 2 2;load p 50 2;load q 9 1;load r 100 2;");
        // paths: p 0 0 1, by 20; q 1 1 1, by 31
        check.due("toll(0, 0)", x.toll(0, 0), 3);
        check.due("toll(1, 0)", x.toll(1, 0), 3);
        check.due("toll(1, 1)", x.toll(1, 1), 3);
        check.due("toll(0, 1)", x.toll(0, 1), 0);
        check.due("no path", x.toll(0, 2), -1);
        check.due("toll(2, 0)", x.toll(2, 0), -1);
        check.due("toll(-1, 0)", x.toll(-1, 0), -1);
        check.due("toll(0, 3)", x.toll(0, 3), -1);
        check.due("toll(0, -1)", x.toll(0, -1), -1);
        SignedBridge y = Check.bridge("rows 2;signer a 1 1;plank a 0 0;load q 9 1;");
        check.due("over a jump", y.toll(0, 0), 1);
    }
}
