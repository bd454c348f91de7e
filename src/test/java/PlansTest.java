/** Promises 23 and 25 to 33: keystone, cut, order, forgers, laws of the dead. */
public final class PlansTest {
    private static final Check check = new Check("PlansTest");

    public static void main(String[] args) {
        keystones();
        cuts();
        cutsOfMore();
        cutsKept();
        orders();
        forgersAsTold();
        forgersByPaths();
        tellsAsItWas();
        laws();
        lasting();
        lastingToTheEnd();
        check.close();
    }

    private static void keystones() {
        check.due("no signers", Check.bridge("load p 1 1;").keystone(), -1);
        check.due("no loads: the first", Check.bridge("signer a 1 1;signer b 1 1;").keystone(), 0);
        SignedBridge x = Check.bridge("rows 2;signer a 3 1;signer b 3 1;signer c 9 1;plank a 0 0;plank a 0 1;plank b 0 2;"
                + "plank c 1 1;plank b 1 2;load p 30 1;load q 90 1;load r 60 2;");
        // able: p, r (30 + 30, 90 + 30). Without a: p; without b: p by 0 1, r no more; without c: p by b b
        check.due("able()", x.able(), 2);
        check.due("of like ones the first", x.keystone(), 0);
        x.burn(1, 2);
        // c's plank is singed (85): without it none
        check.due("the only plank of row 1", x.keystone(), 2);
        x.die(2);
        check.due("a dead one, too", x.keystone(), 2);
        // what was lost with lovers: b's plank makes a's bear 35
        SignedBridge y = Check.bridge("rows 1;signer c 9 1;signer a 3 1;signer b 0 1;lovers a b;plank a 0 0;plank b 0 1;"
                + "load p 35 1;load q 31 1;load r 30 1;");
        check.due("all by a", y.keystone(), 1);
        SignedBridge z = Check.bridge("rows 1;signer c 9 1;signer a 3 1;signer b 3 1;lovers a b;plank a 0 0;plank b 0 1;"
                + "load p 35 1;load q 31 1;");
        check.due("a and b alike", z.keystone(), 1);
        // a fallen load counts no more
        SignedBridge w = Check.bridge("rows 1;signer a 3 1;signer b 5 1;plank a 0 0;plank b 0 2;load p 51 1;load q 30 1;"
                + "load r 9 1;");
        check.due("none by either", w.keystone(), 0);
        w.cross(0);
        check.due("p fell with b's plank", w.now(2), 1);
        check.due("a's plank is left for q", w.keystone(), 0);
    }

    private static void cut(SignedBridge x, int l, int size, int a, int b, int c) {
        check.due("cut(" + l + ")", x.cut(l), size);
        int[] places = {a, b, c};
        for (int i = 0; i < 3; i++) {
            check.due("cutAt(" + i + ") of " + l, x.cutAt(i), places[i]);
        }
        check.due("cutAt(3)", x.cutAt(3), -1);
        check.due("cutAt(-1)", x.cutAt(-1), -1);
    }

    private static void cuts() {
        SignedBridge x = Check.bridge("rows 3;signer a 3 1;signer b 3 1;plank a 0 0;plank a 0 1;plank a 0 2;plank b 1 1;"
                + "plank b 1 2;plank b 2 0;plank b 2 1;plank b 2 2;load p 30 1;load q 60 2;load r 90 3;load h 9 1;");
        // p: two at least, of like ones the first: both of row 1
        cut(x, 0, 2, 4, 5, -1);
        // q: the middle of row 0
        cut(x, 1, 1, 1, -1, -1);
        cut(x, 2, 0, -1, -1, -1);
        // h jumps over one row, not over two behind one another: all of row 0 and both of row 1 would be five
        check.due("cut of a light load", x.cut(3), -1);
        check.due("cut(4)", x.cut(4), -1);
        check.due("cut(-1)", x.cut(-1), -1);
        check.due("nothing was burnt", x.now(2), 8);
    }

    private static void cutsOfMore() {
        SignedBridge x = Check.bridge("rows 2;signer a 3 1;signer b 4 1;plank a 0 0;plank a 0 1;plank a 0 2;plank b 1 0;"
                + "plank b 1 1;plank b 1 2;load p 30 1;load q 40 1;load h 9 1;");
        // 0 1 leaves K 2 only, from which K 1 and K 2 are near: 0 1 2 is the first of three
        cut(x, 0, 3, 0, 1, 2);
        // q stands on b's alone: no path
        cut(x, 1, 0, -1, -1, -1);
        check.due("a light one: six", x.cut(2), -1);
        // from K 0 there is K 1 alone: one plank in each row
        SignedBridge y = Check.bridge("rows 2;signer a 3 1;plank a 0 0;plank a 0 2;plank a 1 1;plank a 1 2;load p 30 1;");
        cut(y, 0, 2, 0, 2, -1);
        SignedBridge z = Check.bridge("rows 3;signer a 3 1;signer b 3 1;plank a 0 0;plank a 0 1;plank a 0 2;plank a 1 0;"
                + "plank a 1 2;plank b 2 0;plank b 2 1;plank b 2 2;load p 30 1;");
        cut(z, 0, 2, 3, 5, -1);
        // without the lover's plank a's bears too little
        SignedBridge w = Check.bridge("rows 1;signer a 3 1;signer b 0 1;lovers a b;plank b 0 0;plank a 0 1;load p 35 1;"
                + "load h 5 1;");
        cut(w, 0, 1, 0, -1, -1);
        check.due("a jump over the only row", w.cut(1), -1);
        // a light load on two rows: all planks of both must go
        SignedBridge h = Check.bridge("rows 2;signer a 3 1;plank a 0 0;plank a 1 2;plank a 1 0;load h 9 1;");
        cut(h, 0, 3, 0, 3, 5);
        h.sign(0, 0, 1);
        check.due("four are too many", h.cut(0), -1);
        check.due("and leave what was told", h.cutAt(2), 5);
    }

    private static void cutsKept() {
        SignedBridge x = Check.bridge("rows 1;signer a 3 1;plank a 0 1;load p 30 1;load h 9 1;");
        check.due("ahead of any", x.cutAt(0), -1);
        cut(x, 0, 1, 1, -1, -1);
        check.due("one that is NONE", x.cut(1), -1);
        check.due("leaves it", x.cutAt(0), 1);
        x.burn(0, 1);
        check.due("as told last", x.cutAt(0), 1);
        cut(x, 0, 0, -1, -1, -1);
    }

    private static void order(SignedBridge x, int crossed, String loads) {
        check.due("order()", x.order(), crossed);
        StringBuilder got = new StringBuilder();
        for (int i = 0; i < 6 && x.orderAt(i) != -1; i++) {
            got.append(x.orderAt(i));
        }
        check.dueText("the order", got.toString(), loads);
        check.due("orderAt(-1)", x.orderAt(-1), -1);
        check.due("orderAt(6)", x.orderAt(6), -1);
    }

    private static void orders() {
        SignedBridge none = new SignedBridge();
        check.due("ahead of any", none.orderAt(0), -1);
        order(none, 0, "");
        SignedBridge x = Check.bridge("rows 1;signer a 3 1;signer b 5 1;plank a 0 0;plank b 0 2;load p 60 1;load q 40 1;"
                + "load r 30 1;load s 70 3;load t 9 1;");
        // p falls with b's plank, of which q has need; s falls with nothing, as it is too wide
        order(x, 3, "10234");
        check.due("nothing happened", x.now(2), 2);
        check.due("none fell", x.now(3), 0);
        x.cross(1);
        order(x, 3, "10234");
        x.cross(0);
        check.due("q has no path now", x.able(), 2);
        // q falls with a's plank, of which r has need
        order(x, 2, "2134");
        x.bridge();
        check.due("the latest stays", x.orderAt(3), 4);
    }

    private static int forgers(SignedBridge x, int... bytes) {
        StringBuilder out = new StringBuilder();
        for (int b : bytes) {
            out.append((char) b);
        }
        x.end(0);
        Tape.put(x, out.toString());
        int sets = x.forgers();
        check.due("the tape is empty", x.count(5), 0);
        return sets;
    }

    private static void forgersAsTold() {
        SignedBridge x = Check.bridge("rows 1;signer a 3 1;signer b 5 1;plank a 0 0;plank b 0 2;load p 30 1;load q 40 1;");
        check.due("no pair", forgers(x), -1);
        check.due("half a pair", forgers(x, 0), -1);
        check.due("a pair and a half", forgers(x, 0, 1, 1), -1);
        check.due("no such load", forgers(x, 2, 1), -1);
        check.due("no such load by far", forgers(x, 255, 1), -1);
        check.due("neither 0 nor 1", forgers(x, 0, 2), -1);
        check.due("seven", forgers(x, 0, 1, 0, 1, 0, 1, 0, 1, 0, 1, 0, 1, 0, 1), -1);
        check.due("surely() ahead of any", x.surely(), -1);
        check.due("tells() ahead of any", x.tells(), -1);
        check.due("six", forgers(x, 0, 1, 0, 1, 0, 1, 0, 1, 0, 1, 0, 1), 3);
        check.due("surely()", x.surely(), 0);
        check.due("against itself", forgers(x, 0, 1, 0, 0), 0);
        check.due("surely() stays", x.surely(), 0);
    }

    private static void forgersByPaths() {
        SignedBridge x = Check.bridge("rows 1;signer a 3 1 forger;signer b 5 1;signer c 0 1;plank a 0 0;plank b 0 2;"
                + "load p 30 1;load q 40 1;load r 300 1;load s 60 1;");
        // q has a path unless b forges; p unless a and b forge; c is free
        check.due("q has one", forgers(x, 1, 1), 4);
        check.due("surely nobody", x.surely(), 0);
        // by all four sets p and q have one, r and s none: the first of like ones
        check.due("tells nothing", x.tells(), 0);
        check.due("q has none", forgers(x, 1, 0), 4);
        check.due("surely b", x.surely(), 2);
        check.due("p tells then", x.tells(), 0);
        check.due("p has none", forgers(x, 0, 0), 2);
        check.due("surely a and b", x.surely(), 3);
        check.due("p has one", forgers(x, 0, 1), 6);
        // by four of six sets q has one, by none r: q is nearer
        check.due("q tells", x.tells(), 1);
        check.due("both", forgers(x, 0, 1, 1, 0), 2);
        check.due("surely b alone", x.surely(), 2);
        check.due("r has one", forgers(x, 2, 1), 0);
        check.due("surely() stays", x.surely(), 2);
        check.due("who forges stays", x.signer(0, 2), 1);
        check.due("no signers: one set", forgers(Check.bridge("rows 1;load p 9 1;"), 0, 1), 1);
        // a lover beside who forges makes it bear more all the same
        SignedBridge y = Check.bridge("rows 1;signer a 3 1;signer b 3 1;lovers a b;plank a 0 0;plank b 0 1;load p 35 1;"
                + "load q 70 2;load r 35 2;");
        check.due("35 by one of them", forgers(y, 0, 1), 3);
        check.due("35 in all by one", forgers(y, 1, 0, 2, 1), 2);
        check.due("surely neither", y.surely(), 0);
        // over more rows than one
        SignedBridge w = Check.bridge("rows 3;signer a 3 1;signer b 4 1;signer c 5 1;plank a 0 0;plank b 0 1;plank b 1 1;"
                + "plank c 1 2;plank c 2 2;load p 30 1;load q 9 1;load r 41 1;");
        // p: from a's plank only b's is near, so it has need of b and c
        check.due("p has one", forgers(w, 0, 1), 2);
        check.due("surely nobody of them", w.surely(), 0);
        check.due("p has none", forgers(w, 0, 0), 6);
        // q jumps over a row without a true plank, but not over two: it has none if both b and c forge
        check.due("p none, q one", forgers(w, 0, 0, 1, 1), 4);
        // the fallen are asked, too
        SignedBridge z = Check.bridge("rows 1;signer a 3 1;plank a 0 0;load p 40 1;");
        z.cross(0);
        check.due("a fallen load", forgers(z, 0, 0), 2);
    }

    private static void tellsAsItWas() {
        SignedBridge x = Check.bridge("rows 1;signer a 3 1;signer b 5 1;plank a 0 0;plank b 0 2;load p 30 1;load q 40 1;");
        check.due("all", forgers(x, 0, 1), 3);
        check.due("q tells", x.tells(), 1);
        x.burn(0, 0);
        x.burn(0, 2);
        check.due("as it was then", x.tells(), 1);
        check.due("surely() too", x.surely(), 0);
        check.due("now by none", forgers(x, 0, 1), 0);
        check.due("tells() stays", x.tells(), 1);
        x.image(0);
        check.due("an empty bridge", x.bridge(), 0);
        check.due("no loads now, two then", x.tells(), 1);
        check.due("surely() stays", x.surely(), 0);
        x.image(1);
        check.due("none by no loads", forgers(x, 0, 1), -1);
        check.due("tells() stays behind that", x.tells(), 1);
        x.restore(0);
        check.due("and behind a restore", x.tells(), 1);
        Tape.put(x, "rows 1;signer a 3 1;plank a 0 0;load r 30 1;load s 99 1;");
        check.due("another bridge", x.bridge(), 5);
        check.due("and behind another bridge", x.tells(), 1);
        check.due("r has one", forgers(x, 0, 1), 1);
        check.due("the latest", x.tells(), 0);
        x.restore(1);
        check.due("with no loads by a restore", x.tells(), 0);
    }

    private static void laws() {
        SignedBridge x = Check.bridge("rows 1;keeps 4;signer a 3 1;signer b 2 1;heir a b;plank a 0 0;load p 30 1;"
                + "load q 20 1;load r 31 1;");
        check.due("no path by any law", x.law(2, 1), -1);
        check.due("while all live", x.law(0, 60), 0);
        x.die(0);
        check.due("this day", x.law(0, 1), 0);
        check.due("two days", x.law(0, 2), 1);
        check.due("31 days", x.law(0, 31), 30);
        check.due("32 days", x.law(0, 32), -1);
        check.due("the heir's bears 20", x.law(1, 60), 0);
        x.days(2);
        // died two days ago: by 0 and 1 the plank was his for ever, as that day is over
        check.due("by a law that came too late", x.law(0, 60), 0);
        check.due("keeps stays", x.count(4), 4);
        check.due("the day stays", x.now(0), 2);
        check.due("law(3, 1)", x.law(3, 1), -1);
        check.due("law(-1, 1)", x.law(-1, 1), -1);
        check.due("law(0, 0)", x.law(0, 0), -1);
        check.due("law(0, 61)", x.law(0, 61), -1);
    }

    private static void lasting() {
        SignedBridge x = Check.bridge("rows 1;keeps 4;signer a 3 1;signer b 2 1;heir a b;plank a 0 0;load p 30 1;"
                + "load q 20 1;load r 31 1;");
        check.due("for ever", x.lasts(0), -1);
        check.due("not now", x.lasts(2), 0);
        x.days(7);
        check.due("not on day 7", x.lasts(2), 7);
        x.die(0);
        check.due("until the fifth day from now", x.lasts(0), 12);
        check.due("q by the heir's", x.lasts(1), -1);
        x.days(3);
        check.due("the same later", x.lasts(0), 12);
        check.due("lasts(3)", x.lasts(3), -1);
        check.due("lasts(-1)", x.lasts(-1), -1);
        check.due("the day stays", x.now(0), 10);
    }

    private static void lastingToTheEnd() {
        SignedBridge x = Check.bridge("rows 1;keeps 0;signer a 3 1;plank a 0 0;load p 30 1;");
        for (int i = 0; i < 6; i++) {
            x.days(60);
        }
        x.days(39);
        x.die(0);
        check.due("day 400, too", x.lasts(0), 400);
        x.days(60);
        check.due("on day 400 none", x.lasts(0), 400);
        x.undo();
        x.undo();
        x.days(1);
        x.die(0);
        check.due("no day behind 400", x.lasts(0), -1);
        check.due("nor a law for one", x.law(0, 60), 0);
    }
}
