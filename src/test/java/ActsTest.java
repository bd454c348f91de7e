/** Promises 6 to 17: what is so, the acts, the DAYS, and acts undone. */
public final class ActsTest {
    private static final Check check = new Check("ActsTest");
    private static final String TEXT = "rows 3;keeps 2;signer ana 5 2;signer ben 3 1;signer cyd 9 3 forger;"
            + "signer dov 8 9;heir ana dov;lovers ben ana;lovers ben cyd;"
            + "plank ana 0 0;plank ben 0 1;plank cyd 0 2;plank ana 1 0;plank dov 1 2;"
            + "load car 60 2;load cat 9 1;load pin 8 3;";

    public static void main(String[] args) {
        signers();
        planks();
        loads();
        signing();
        burning();
        words();
        dying();
        crossing();
        falling();
        days();
        inheriting();
        lastDay();
        undoing();
        undoOfAll();
        check.close();
    }

    private static void signers() {
        SignedBridge x = Check.bridge(TEXT);
        int[][] due = {{5, 2, 0, 3, 2, 0, 2, -1}, {3, 1, 0, -1, 5, 0, 1, -1}, {9, 3, 1, -1, 2, 0, 1, -1},
            {8, 9, 0, -1, 0, 0, 1, -1}};
        for (int s = 0; s < 4; s++) {
            for (int what = 0; what < 8; what++) {
                check.due("signer(" + s + ", " + what + ")", x.signer(s, what), due[s][what]);
            }
        }
        check.dueNoSuch("signer(-1, 0)", () -> x.signer(-1, 0));
        check.dueNoSuch("signer(4, 0)", () -> x.signer(4, 0));
        check.dueNoSuch("signer(0, -1)", () -> x.signer(0, -1));
        check.dueNoSuch("signer(0, 8)", () -> x.signer(0, 8));
        check.dueNoSuch("signer(max, min)", () -> x.signer(Integer.MAX_VALUE, Integer.MIN_VALUE));
    }

    private static void planks() {
        SignedBridge x = Check.bridge(TEXT);
        // ana beside ben: 50 + 5; ben beside ana and cyd: 30 + 10; cyd forges
        int[][] due = {{0, 55, 0}, {1, 40, 0}, {2, 0, 0}, {0, 50, 0}, {-1, 0, 0}, {3, 80, 0}, {-1, 0, 0}};
        for (int p = 0; p < due.length; p++) {
            for (int what = 0; what < 3; what++) {
                check.due("plank " + p + ", " + what, x.plank(p / 3, p % 3, what), due[p][what]);
            }
        }
        SignedBridge apart = Check.bridge("signer a 1 1;signer b 1 1;lovers a b;plank a 0 2;plank b 1 0;plank b 1 2;"
                + "plank a 2 2;");
        for (int p : new int[] {2, 3, 5, 8}) {
            check.due("lovers in other rows", apart.plank(p / 3, p % 3, 1), 10);
        }
        check.dueNoSuch("plank(3, 0, 0)", () -> x.plank(3, 0, 0));
        check.dueNoSuch("plank(-1, 0, 0)", () -> x.plank(-1, 0, 0));
        check.dueNoSuch("plank(0, 3, 0)", () -> x.plank(0, 3, 0));
        check.dueNoSuch("plank(0, -1, 0)", () -> x.plank(0, -1, 0));
        check.dueNoSuch("plank(0, 0, 3)", () -> x.plank(0, 0, 3));
        check.dueNoSuch("plank(0, 0, -1)", () -> x.plank(0, 0, -1));
        int[] now = {0, 0, 5, 0, 0, 0, 225, -1};
        for (int what = 0; what < now.length; what++) {
            check.due("now(" + what + ")", x.now(what), now[what]);
        }
        check.due("now(-1)", x.now(-1), -1);
    }

    private static void loads() {
        SignedBridge x = Check.bridge(TEXT);
        int[][] due = {{60, 2, 0, 0}, {9, 1, 0, 0}, {8, 3, 0, 0}};
        for (int l = 0; l < 3; l++) {
            for (int what = 0; what < 4; what++) {
                check.due("load(" + l + ", " + what + ")", x.load(l, what), due[l][what]);
            }
        }
        check.dueNoSuch("load(3, 0)", () -> x.load(3, 0));
        check.dueNoSuch("load(-1, 0)", () -> x.load(-1, 0));
        check.dueNoSuch("load(0, 4)", () -> x.load(0, 4));
        check.dueNoSuch("load(0, -1)", () -> x.load(0, -1));
    }

    private static void signing() {
        SignedBridge x = Check.bridge(TEXT);
        check.due("sign where a plank is", x.sign(0, 0, 0), 2);
        check.due("sign a gap", x.sign(1, 1, 1), 0);
        check.due("it is his", x.plank(1, 1, 0), 1);
        check.due("beside ana it bears", x.plank(1, 1, 1), 35);
        check.due("ana beside it, too", x.plank(1, 0, 1), 55);
        check.due("no such signer", x.sign(4, 2, 0), -1);
        check.due("no such signer below", x.sign(-1, 2, 0), -1);
        check.due("no such row", x.sign(0, 3, 0), -1);
        check.due("no such k", x.sign(0, 2, 3), -1);
        check.due("no such k below", x.sign(0, 2, -1), -1);
        SignedBridge y = Check.bridge("signer a 1 1;");
        for (int p = 0; p < 6; p++) {
            check.due("sign of " + p, y.sign(0, p / 3, p % 3), 0);
        }
        check.due("a seventh", y.sign(0, 2, 0), 3);
        check.due("a seventh where a plank is", y.sign(0, 0, 0), 2);
        y.die(0);
        check.due("the dead where a plank is", y.sign(0, 0, 0), 1);
        check.due("the dead at a gap", y.sign(0, 2, 0), 1);
        y.burn(0, 0);
        check.due("the dead with five", y.sign(0, 2, 0), 1);
    }

    private static void burning() {
        SignedBridge x = Check.bridge(TEXT);
        check.due("burn a gap", x.burn(1, 1), 1);
        check.due("burn no row", x.burn(3, 0), -1);
        check.due("burn no k", x.burn(0, 3), -1);
        check.due("burn below", x.burn(-1, 0), -1);
        for (int i = 1; i <= 4; i++) {
            check.due("burn ben " + i, x.burn(0, 1), 0);
            check.due("ana is singed", x.plank(0, 0, 2), Math.min(3, i));
            check.due("cyd is singed", x.plank(0, 2, 2), Math.min(3, i));
            check.due("ana bears", x.plank(0, 0, 1), 50 - 5 * Math.min(3, i));
            check.due("a gap is not", x.plank(0, 1, 2), 0);
            x.sign(1, 0, 1);
        }
        check.due("four burnt", x.now(5), 4);
        check.due("a new plank is not singed", x.plank(0, 1, 2), 0);
        check.due("burn beside", x.burn(0, 0), 0);
        check.due("the middle is singed", x.plank(0, 1, 2), 1);
        check.due("the other end is not more", x.plank(0, 2, 2), 3);
        x.sign(3, 0, 0);
        check.due("a plank behind a singed one is new", x.plank(0, 0, 2), 0);
        check.due("the next row is not singed", x.plank(1, 0, 2), 0);
        check.due("burn at the end of a row", x.burn(0, 2), 0);
        check.due("the next row is not singed by it", x.plank(1, 0, 2), 0);
        check.due("burn at the beginning of a row", x.burn(1, 0), 0);
        check.due("the row ahead is not singed by it", x.plank(0, 0, 2), 0);
        SignedBridge y = Check.bridge("signer a 0 1;signer b 1 1;plank a 0 0;plank b 0 1;lovers a b;");
        check.due("0 and a lover", y.plank(0, 0, 1), 5);
        y.burn(0, 1);
        check.due("0 at least", y.plank(0, 0, 1), 0);
        y.sign(1, 0, 1);
        check.due("a lover less one singeing", y.plank(0, 0, 1), 0);
    }

    private static void words() {
        SignedBridge x = Check.bridge(TEXT);
        int[] halves = {2, 1, 0, 0};
        for (int half : halves) {
            check.due("breaks(0)", x.breaks(0), 0);
            check.due("earnest is", x.signer(0, 0), half);
        }
        check.due("holds(0)", x.holds(0), 0);
        check.due("earnest is 1", x.signer(0, 0), 1);
        check.due("holds at 9", x.holds(2), 2);
        check.due("earnest stays 9", x.signer(2, 0), 9);
        check.due("breaks 9", x.breaks(2), 0);
        check.due("half of 9", x.signer(2, 0), 4);
        x.die(2);
        check.due("the dead hold none", x.holds(2), 1);
        check.due("the dead break none", x.breaks(2), 1);
        for (int s : new int[] {-1, 4}) {
            check.due("breaks(" + s + ")", x.breaks(s), -1);
            check.due("holds(" + s + ")", x.holds(s), -1);
            check.due("die(" + s + ")", x.die(s), -1);
        }
        SignedBridge y = Check.bridge("signer a 9 1;");
        y.die(0);
        check.due("dead ahead of 9", y.holds(0), 1);
    }

    private static void dying() {
        SignedBridge x = Check.bridge(TEXT);
        x.days(3);
        check.due("die(2)", x.die(2), 0);
        check.due("die(2) again", x.die(2), 1);
        check.due("dead", x.signer(2, 5), 1);
        check.due("on day", x.signer(2, 7), 3);
        check.due("the dead as bits", x.now(1), 4);
        x.die(0);
        check.due("both as bits", x.now(1), 5);
        check.due("the dead bear", x.plank(1, 0, 1), 50);
        check.due("the dead have planks", x.signer(0, 6), 2);
    }

    private static void crossing() {
        SignedBridge x = Check.bridge("rows 3;signer a 2 1;plank a 0 0;plank a 1 1;plank a 2 2;load m 20 1;load n 21 1;"
                + "load o 9 1;");
        check.due("cross(0)", x.cross(0), 0);
        check.due("cross(0) again", x.cross(0), 0);
        check.due("crossed twice", x.load(0, 3), 2);
        check.due("cross(2)", x.cross(2), 0);
        check.due("all crossed", x.now(4), 3);
        check.due("cross(1) falls", x.cross(1), 2);
        check.due("fallen", x.load(1, 2), 1);
        check.due("fallen as bits", x.now(3), 2);
        check.due("its plank is a gap", x.plank(0, 0, 0), -1);
        check.due("nothing was burnt", x.now(5), 0);
        check.due("it crosses no more", x.cross(1), 1);
        check.due("the other one falls now", x.cross(0), 2);
        check.due("no plank where it fell", x.now(2), 2);
        check.due("how often it crossed stays", x.load(0, 3), 2);
        check.due("the light one jumps", x.cross(2), 0);
        check.due("cross(3)", x.cross(3), -1);
        check.due("cross(-1)", x.cross(-1), -1);
    }

    private static void falling() {
        // in row 1 the load stands nowhere: the most is borne at K 1, a tie with nothing
        SignedBridge x = Check.bridge("rows 2;signer a 2 1;signer b 3 1;plank a 0 0;plank a 0 1;plank a 1 0;plank b 1 1;"
                + "plank b 1 2;load w 40 2;load v 55 2;");
        check.due("w crosses", x.cross(0), 0);
        check.due("v falls in row 0", x.cross(1), 2);
        check.due("row 0 is gone", x.now(2), 3);
        SignedBridge y = Check.bridge("rows 2;signer a 3 1;signer b 2 1;plank a 0 0;plank a 0 1;plank b 1 0;plank b 1 1;"
                + "plank b 1 2;load v 55 2;");
        check.due("v falls in row 1", y.cross(0), 2);
        check.dueText("of like ones the first", Check.plate(y, 1), "gap-gap-b");
        check.due("not singed", y.plank(1, 2, 2), 0);
        check.dueText("row 0 stays", Check.plate(y, 0), "a-a-gap");
        // K apart by two: it STANDS in row 1, but can't be there
        SignedBridge z = Check.bridge("rows 2;signer a 3 1;signer b 1 1;plank a 0 0;plank b 1 0;plank a 1 2;load v 30 1;");
        check.due("v falls apart", z.cross(0), 2);
        check.dueText("where most is borne", Check.plate(z, 1), "b-gap-gap");
        // a light load: jumps are no two behind one another
        SignedBridge q = Check.bridge("rows 3;signer a 3 1;plank a 0 0;load v 9 1;");
        check.due("a light one falls", q.cross(0), 2);
        check.due("in a row without planks", q.now(2), 1);
        SignedBridge r = Check.bridge("rows 4;signer a 0 1;plank a 2 1;load v 9 1;load h 10 1;");
        check.due("behind a jump it must stand", r.cross(0), 2);
        check.due("it falls in row 1, where no plank is", r.now(2), 1);
        check.due("a heavy one falls in row 0", r.cross(1), 2);
        check.due("where no plank is, either", r.now(2), 1);
        SignedBridge f = Check.bridge("rows 1;signer a 0 1;plank a 0 2;load h 10 1;load w 10 2;");
        check.due("too wide", f.cross(1), 2);
        check.due("no such K", f.now(2), 1);
        check.due("planks that bear nothing", f.cross(0), 2);
        check.due("are gone, too", f.now(2), 0);
    }

    private static void days() {
        SignedBridge x = Check.bridge(TEXT);
        check.due("days(0)", x.days(0), -1);
        check.due("days(61)", x.days(61), -1);
        check.due("days(-1)", x.days(-1), -1);
        check.due("days(1)", x.days(1), 1);
        check.due("days(60)", x.days(60), 60);
        check.due("day", x.now(0), 61);
    }

    private static void inheriting() {
        SignedBridge x = Check.bridge(TEXT);
        x.burn(0, 1);
        x.die(0);
        x.die(1);
        x.days(2);
        check.due("kept for two days", x.plank(0, 0, 0), 0);
        x.days(1);
        check.due("then the heir's", x.plank(0, 0, 0), 3);
        check.due("singed as it was", x.plank(0, 0, 2), 1);
        check.due("the other, too", x.plank(1, 0, 0), 3);
        check.due("the heir has", x.signer(3, 6), 3);
        check.due("the dead has", x.signer(0, 6), 0);
        x.die(2);
        x.days(3);
        check.due("no heir: a gap", x.plank(0, 2, 0), -1);
        x.die(3);
        x.days(3);
        check.due("none is left", x.now(2), 0);
        SignedBridge y = Check.bridge("keeps 0;signer a 1 1;signer b 1 1;signer c 1 1;heir a b;heir b c;"
                + "plank a 0 0;plank a 0 1;plank a 0 2;plank b 1 0;plank b 1 1;plank b 1 2;plank b 2 0;plank c 3 0;");
        y.die(0);
        y.days(1);
        check.dueText("six at most", Check.plate(y, 0), "b-b-gap");
        check.due("b has six", y.signer(1, 6), 6);
        y.die(1);
        y.die(2);
        y.days(1);
        check.due("a dead heir takes none", y.now(2), 0);
        // both die on one day: the first one's planks go to a dead one, who is nobody's
        SignedBridge z = Check.bridge("keeps 1;signer a 1 1;signer b 1 1;signer c 1 1;heir a b;heir c b;"
                + "plank a 0 0;plank c 0 2;");
        z.die(2);
        z.die(0);
        z.days(1);
        z.die(1);
        z.days(1);
        check.due("an heir dead by then", z.now(2), 0);
        // signer by signer, then place by place
        SignedBridge q = Check.bridge("keeps 0;signer h 1 1;signer a 1 1;signer b 1 1;heir a h;heir b h;plank h 3 0;"
                + "plank h 3 1;plank h 3 2;plank b 0 0;plank a 0 1;plank a 1 0;plank b 1 1;");
        q.die(2);
        q.die(1);
        q.days(1);
        check.dueText("a's ahead of b's", Check.plate(q, 0), "h-h-gap");
        check.dueText("and b's last is lost", Check.plate(q, 1), "h-gap-gap");
        SignedBridge w = Check.bridge("keeps 3;signer a 1 1;plank a 0 0;");
        w.days(5);
        w.die(0);
        w.days(3);
        check.due("three days kept", w.now(2), 1);
        w.days(1);
        check.due("and no more", w.now(2), 0);
    }

    private static void lastDay() {
        SignedBridge x = Check.bridge(TEXT);
        for (int i = 0; i < 6; i++) {
            x.days(60);
        }
        check.due("at 360", x.now(0), 360);
        check.due("forty are left", x.days(60), 40);
        check.due("at 400", x.now(0), 400);
        check.due("none is left", x.days(1), 0);
        check.due("none is drawn", x.drawn(5, 1), 0);
        check.due("a word is held all the same", x.holds(0), 0);
        check.due("undo that", x.undo(), 7);
        check.due("undo forty", x.undo(), 6);
        check.due("at 360 again", x.now(0), 360);
    }

    private static void undoing() {
        SignedBridge x = Check.bridge(TEXT);
        for (int i = 0; i < 10; i++) {
            x.days(1);
        }
        for (int left = 7; left >= 0; left--) {
            check.due("undo()", x.undo(), left);
            check.due("the day", x.now(0), left + 2);
        }
        check.due("no more", x.undo(), -1);
        check.due("day 2 stays", x.now(0), 2);
        x.breaks(0);
        x.sign(0, 0, 0);
        x.holds(2);
        x.days(0);
        x.burn(1, 1);
        x.cross(9);
        check.due("what was not done is not kept", x.undo(), 0);
        check.due("the word is whole", x.signer(0, 0), 5);
        for (int i = 0; i < 20; i++) {
            x.holds(1);
            x.holds(2);
            check.due("the undone is kept no more", x.undo(), 0);
        }
        check.due("nothing else was touched", x.signer(1, 0), 3);
    }

    private static SignedBridge behindActs(int many) {
        SignedBridge x = Check.bridge(TEXT);
        for (int act = 0; act < many; act++) {
            switch (act) {
                case 0 -> check.due("burn", x.burn(0, 1), 0);
                case 1 -> check.due("sign", x.sign(1, 0, 1), 0);
                case 2 -> check.due("cross light", x.cross(1), 0);
                case 3 -> check.due("cross and fall", x.cross(0), 2);
                case 4 -> check.due("die", x.die(0), 0);
                case 5 -> check.due("days", x.days(4), 4);
                case 6 -> check.due("drawn", x.drawn(30, 12), 30);
                default -> {
                    Tape.put(x, "day 3;ben breaks;");
                    int wrong = x.book(1);
                    check.due("a book that is wrong or not", wrong == -1 || wrong == 1, true);
                }
            }
        }
        return x;
    }

    private static void undoOfAll() {
        for (int left = 7; left >= 0; left--) {
            SignedBridge x = behindActs(8);
            for (int more = 7; more >= left; more--) {
                check.due("undo()", x.undo(), more);
            }
            check.dueText("behind " + left + " acts", Seen.state(x), Seen.state(behindActs(left)));
        }
    }
}
