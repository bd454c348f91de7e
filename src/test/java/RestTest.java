/** Promises 35 to 45: plates, draws, books that are judged, what may be said, images, counts. */
public final class RestTest {
    private static final Check check = new Check("RestTest");
    private static final String TEXT = "rows 2;keeps 1;signer ana 5 2;signer benedik 3 1 forger;signer cyd 9 3;"
            + "heir ana cyd;lovers ana benedik;plank ana 0 0;plank benedik 0 1;plank cyd 0 2;plank ana 1 1;"
            + "load car 50 1;load van 100 2;";

    public static void main(String[] args) {
        plates();
        drawnOneByOne();
        drawnLoads();
        drawnAsTold();
        oddsAsTold();
        booksJudged();
        booksWrong();
        booksLived();
        toldAsTold();
        saying();
        sayingNow();
        joins();
        images();
        imagesKeepAll();
        counts();
        check.close();
    }

    private static void plates() {
        SignedBridge x = Check.bridge(TEXT);
        check.due("byteAt(0) ahead of any", x.byteAt(0), -1);
        check.due("plate(0)", x.plate(0), 15);
        check.dueText("its bytes", Check.plate(x, 0), "ana-benedik-cyd");
        check.dueText("with gaps", Check.plate(x, 1), "gap-ana-gap");
        check.due("plate(2)", x.plate(2), -1);
        check.due("plate(-1)", x.plate(-1), -1);
        check.due("the latest stays", x.byteAt(4), 'a');
        check.due("byteAt(11)", x.byteAt(11), -1);
        check.due("byteAt(-1)", x.byteAt(-1), -1);
        x.burn(1, 1);
        check.due("as it was told", x.byteAt(4), 'a');
        check.dueText("the widest", Check.plate(Check.bridge("signer abcdefg 1 1;signer zyxwvut 1 1;plank abcdefg 3 0;"
                + "plank zyxwvut 3 1;plank abcdefg 3 2;"), 3), "abcdefg-zyxwvut-abcdefg");
        check.dueText("one that is called gap", Check.plate(Check.bridge("signer gap 1 1;plank gap 0 0;"), 0),
                "gap-gap-gap");
    }

    /* The first draw of 20 by these seeds: 10: 0, 2: 1, 29 and 80: 2 (of 5 then: not 0, 0), 13: 3, 0: 4 or more. */
    private static void drawnOneByOne() {
        SignedBridge x = Check.bridge("rows 2;signer a 5 1;");
        check.due("drawn(1, 10)", x.drawn(1, 10), 1);
        check.due("he breaks", x.signer(0, 0), 2);
        check.due("a day went", x.now(0), 1);
        check.due("undo()", x.undo(), 0);
        check.due("undone", x.signer(0, 0) * 10 + x.now(0), 50);
        x.drawn(1, 2);
        check.due("he holds", x.signer(0, 0), 6);
        x.drawn(1, -41);
        check.due("by a seed below 0", x.signer(0, 0), 3);
        x.drawn(1, 29);
        check.due("he lives", x.now(1), 0);
        x.drawn(1, 13);
        check.due("he signs place 1 of 6", x.plank(0, 1, 0), 0);
        x.drawn(1, 13);
        check.due("once", x.now(2), 1);
        x.drawn(1, 80);
        check.due("he dies", x.now(1), 1);
        check.due("on day", x.signer(0, 7), 5);
        check.due("it is day", x.now(0), 6);
        x.drawn(1, 10);
        x.drawn(1, 80);
        x.drawn(1, 21);
        check.due("the dead do nothing", x.signer(0, 0), 3);
        check.due("and die once", x.signer(0, 7), 5);
        check.due("nor do they sign", x.now(2), 1);
        x.days(4);
        check.due("his plank goes as told", x.now(2), 0);
        SignedBridge nine = Check.bridge("rows 2;signer a 9 1;");
        nine.drawn(1, 2);
        check.due("no more than 9", nine.signer(0, 0), 9);
    }

    private static void drawnLoads() {
        String text = "rows 1;signer a 5 1;plank a 0 0;load p 50 1;";
        SignedBridge x = Check.bridge(text);
        x.drawn(1, 0);
        check.due("it stays", x.load(0, 3), 0);
        x.drawn(1, 1);
        check.due("it crosses", x.load(0, 3), 1);
        x.breaks(0);
        x.drawn(1, 1);
        check.due("it falls", x.load(0, 2), 1);
        check.due("with its plank", x.now(2), 0);
        x.drawn(1, 1);
        check.due("once", x.now(3), 1);
        // draw by draw, as long as the signer does nothing
        SignedBridge y = Check.bridge(text);
        int seed = 7;
        int crossed = 0;
        int days = 0;
        for (boolean idle = true; idle && days < 60; days++) {
            seed = seed * 1103515245 + 12345;
            idle = (seed >>> 8) % 20 > 3;
            seed = seed * 1103515245 + 12345;
            crossed += idle && (seed >>> 8) % 4 == 0 ? 1 : 0;
        }
        check.due("more than one day", days > 2, true);
        y.drawn(days - 1, 7);
        check.due("the draws go on from day to day", y.load(0, 3), crossed);
    }

    private static void drawnAsTold() {
        SignedBridge x = Check.bridge("signer a 5 1;");
        check.due("drawn(0, 1)", x.drawn(0, 1), -1);
        check.due("drawn(61, 1)", x.drawn(61, 1), -1);
        check.due("drawn(60, 1)", x.drawn(60, 1), 60);
        for (int i = 0; i < 5; i++) {
            x.days(60);
        }
        check.due("forty are left", x.drawn(60, 3), 40);
        check.due("none is left", x.drawn(60, 3), 0);
        check.due("undo() of the forty", x.undo(), 6);
        check.due("the day", x.now(0), 360);
        check.due("no signers", Check.bridge("load p 5 1;").drawn(1, 1), -1);
    }

    private static void oddsAsTold() {
        SignedBridge x = Check.bridge("rows 1;signer a 5 1;plank a 0 0;plank a 0 1;load p 30 1;load q 9 1;load r 300 1;");
        check.due("a light one", x.odds(1, 30, 5), 30);
        check.due("a heavy one", x.odds(2, 30, 5), 0);
        int sum = 0;
        for (int i = 0; i < 30; i++) {
            sum += x.odds(0, 1, Integer.MAX_VALUE - 3 + i);
        }
        check.due("seed by seed, wrapping", x.odds(0, 30, Integer.MAX_VALUE - 3), sum);
        int by = 0;
        for (int seed = 100; seed < 130; seed++) {
            SignedBridge y = Check.bridge("rows 1;signer a 5 1;plank a 0 0;plank a 0 1;load p 30 1;load q 9 1;"
                    + "load r 300 1;");
            y.drawn(20, seed);
            by += y.spare(0) == -1 ? 0 : 1;
        }
        check.due("as twenty days drawn", x.odds(0, 30, 100), by);
        check.due("some, not all", by > 0 && by < 30, true);
        for (int seed = 0; seed < 300; seed++) {
            SignedBridge y = Check.bridge("rows 1;signer a 5 1;plank a 0 0;load p 30 1;load q 20 1;");
            int odds = y.odds(1, 1, seed);
            y.drawn(20, seed);
            check.due("odds by seed " + seed, odds, y.spare(1) == -1 ? 0 : 1);
        }
        check.due("all stays", x.now(0) * 10 + x.now(2), 2);
        check.due("nothing to undo", x.undo(), -1);
        check.due("odds(3, 1, 1)", x.odds(3, 1, 1), -1);
        check.due("odds(-1, 1, 1)", x.odds(-1, 1, 1), -1);
        check.due("odds(0, 0, 1)", x.odds(0, 0, 1), -1);
        check.due("odds(0, 31, 1)", x.odds(0, 31, 1), -1);
        check.due("no signers", Check.bridge("load p 5 1;").odds(0, 1, 1), -1);
    }

    private static void told(SignedBridge x, int why, int lines, int day, int fallen) {
        int[] due = {why, lines, day, fallen, -1};
        for (int what = 0; what < 5; what++) {
            check.due("told(" + what + ")", x.told(what), due[what]);
        }
    }

    private static int book(SignedBridge x, String text, int lives) {
        Tape.put(x, text);
        return x.book(lives);
    }

    private static void booksJudged() {
        SignedBridge x = Check.bridge(TEXT);
        check.due("a good book", book(x, "ana signs 1 0;cyd breaks;burns 0 2;day 3;van crosses;cyd holds;ana dies;", 0),
                -1);
        told(x, 0, 7, 3, 2);
        check.due("all stays", x.now(0) + x.now(1) + x.now(3) + x.now(5), 0);
        check.due("planks stay", x.now(2), 4);
        check.due("nothing to undo", x.undo(), -1);
        check.due("an empty one", book(x, "", 0), -1);
        told(x, 0, 0, 0, 0);
    }

    private static void wrong(String text, int line, int why) {
        SignedBridge x = Check.bridge(TEXT);
        check.due("book of " + text, book(x, text, 0), line);
        check.due("why of " + text, x.told(0), why);
        check.due("lines of " + text, x.told(1), line);
        check.due("fault of " + text, x.fault(), 0);
    }

    private static void booksWrong() {
        wrong("ana dies;ana signs 1 0;", 1, 1);
        wrong("ana signs 1 1;", 0, 2);
        wrong("day 1;ana signs 2 0;", 1, 9);
        wrong("ana dies;ana signs 11 0;", 1, 9);
        wrong("burns 1 0;", 0, 11);
        wrong("burns 2 0;", 0, 19);
        wrong("cyd dies;cyd breaks;", 1, 21);
        wrong("cyd dies;cyd holds;", 1, 31);
        wrong("cyd holds;", 0, 32);
        wrong("ana holds;cyd dies;cyd dies;", 2, 41);
        wrong("van crosses;van crosses;", 1, 51);
        wrong("day 60;day 60;day 60;day 60;day 60;day 60;day 41;", 6, 61);
        SignedBridge x = Check.bridge("rows 3;signer a 1 1;");
        check.due("a seventh", book(x, "a signs 0 0;a signs 0 1;a signs 0 2;a signs 1 0;a signs 1 1;a signs 1 2;"
                + "a signs 2 0;", 0), 6);
        told(x, 3, 6, 0, 0);
        check.due("to the last day", book(x, "day 60;day 60;day 60;day 60;day 60;day 60;day 40;", 0), -1);
        told(x, 0, 7, 400, 0);
    }

    private static void booksLived() {
        SignedBridge x = Check.bridge(TEXT);
        check.due("lived", book(x, "cyd breaks;day 2;car crosses;ana signs 1 0;", 1), -1);
        told(x, 0, 4, 2, 0);
        check.due("cyd", x.signer(2, 0), 4);
        check.due("the day", x.now(0), 2);
        check.due("car", x.load(0, 3), 1);
        check.due("the plank", x.plank(1, 0, 0), 0);
        check.due("as far as it is not wrong", book(x, "day 1;van crosses;cyd holds;ana signs 1 0;cyd dies;", 1), 3);
        told(x, 2, 3, 3, 2);
        check.due("the day then", x.now(0), 3);
        check.due("van fell", x.now(3), 2);
        check.due("cyd holds", x.signer(2, 0), 5);
        check.due("cyd lives", x.now(1), 0);
        check.due("undo()", x.undo(), 1);
        check.due("day 2 again", x.now(0), 2);
        check.due("cyd again", x.signer(2, 0), 4);
        check.due("undo() of the first", x.undo(), 0);
        check.due("day 0 again", x.now(0), 0);
        check.due("a fault", book(x, "day 1;day;", 1), -11);
        check.due("lives nothing", x.now(0), 0);
        check.due("and keeps nothing", x.undo(), -1);
        x.breaks(0);
        check.due("more days than are left", book(x, "day 60;day 60;day 60;day 60;day 60;day 60;day 60;", 1), 6);
        check.due("none of the last ones went", x.now(0), 360);
        told(x, 61, 6, 360, 0);
    }

    private static void toldAsTold() {
        SignedBridge x = Check.bridge(TEXT);
        told(x, -1, -1, -1, -1);
        check.due("told(-1)", x.told(-1), -1);
        book(x, "van crosses;day 1;", 1);
        told(x, 0, 2, 1, 2);
        book(x, "van crosses;day", 1);
        told(x, 0, 2, 1, 2);
        x.book(7);
        told(x, 0, 2, 1, 2);
        check.due("told(-1)", x.told(-1), -1);
        x.undo();
        x.image(0);
        x.restore(0);
        x.bridge();
        told(x, 0, 2, 1, 2);
    }

    private static void said(SignedBridge x, String sentence, String who) {
        Tape.put(x, sentence);
        check.due("sentence() of " + sentence, x.sentence() > 0, true);
        check.due("said(NONE) of " + sentence, x.said(-1), who.length());
        for (int k = 0; k < who.length(); k++) {
            check.due("said(" + k + ") of " + sentence, x.said(k), who.charAt(k) - '0');
        }
        check.due("said beyond of " + sentence, x.said(who.length()), -1);
        check.due("said(-2) of " + sentence, x.said(-2), -1);
    }

    private static void saying() {
        SignedBridge x = Check.bridge(TEXT);
        check.due("no sentence", x.said(-1), -1);
        check.due("no sentence of any", x.said(0), -1);
        said(x, "dead", "");
        said(x, "forged", "1");
        said(x, "loves ana", "1");
        said(x, "loves benedik", "0");
        said(x, "loves cyd", "");
        said(x, "follows ana", "2");
        said(x, "follows cyd", "");
        said(x, "on 0", "012");
        said(x, "on 1", "0");
        said(x, "on 2", "");
        said(x, "on 11", "");
        said(x, "earnest < 5", "1");
        said(x, "earnest = 5", "0");
        said(x, "earnest > 5", "2");
        said(x, "planks = 2", "0");
        said(x, "planks < 2", "12");
        said(x, "miles > 1", "02");
        said(x, "miles < 999", "012");
        said(x, "number = 1", "1");
        said(x, "number > 0", "12");
        Tape.put(x, "dead or");
        x.sentence();
        check.due("a fault leaves it", x.said(-1), 2);
    }

    private static void sayingNow() {
        SignedBridge x = Check.bridge(TEXT);
        said(x, "dead or planks = 0", "");
        x.die(2);
        check.due("as it is now", x.said(0), 2);
        x.burn(0, 1);
        check.due("by planks, too", x.said(0), 1);
        check.due("both", x.said(-1), 2);
        x.undo();
        check.due("an act undone leaves the sentence", x.said(-1), 1);
        check.due("no signers", sayDead(Check.bridge("")), 0);
    }

    private static int sayDead(SignedBridge x) {
        Tape.put(x, "not dead");
        x.sentence();
        return x.said(-1);
    }

    private static void joins() {
        SignedBridge x = Check.bridge("signer a 1 1;signer b 2 2;signer c 3 3;signer d 4 4;");
        said(x, "number = 0 or number = 1 and number = 2", "0");
        said(x, "number = 2 and number = 1 or number = 0", "0");
        said(x, "(number = 0 or number = 1) and number = 1", "1");
        said(x, "number = 1 and (number = 0 or number = 1)", "1");
        said(x, "not number = 0 and not number = 3", "12");
        said(x, "not (number = 0 and number = 3)", "0123");
        said(x, "not number = 0 or number = 0", "0123");
        said(x, "not not number = 0", "0");
        said(x, "not (not (number = 0) and not number = 1)", "01");
        said(x, "number > 0 and number > 1 and number > 2", "3");
        said(x, "number = 3 or number = 1 or number = 0", "013");
        said(x, "((number<2)and(not number<1))or((number=3))", "13");
        said(x, "not(number=1 or number=2)and not(number=0)", "3");
        said(x, "number=0 and dead or number=1 and not dead or number=2 and forged", "1");
    }

    private static void images() {
        SignedBridge x = Check.bridge(TEXT);
        check.due("image(-1)", x.image(-1), false);
        check.due("image(2)", x.image(2), false);
        check.due("restore(-1)", x.restore(-1), false);
        check.due("restore(2)", x.restore(2), false);
        check.due("restore(0) of nothing", x.restore(0), false);
        check.due("image(1)", x.image(1), true);
        check.due("restore(0) still of nothing", x.restore(0), false);
        x.breaks(0);
        x.breaks(2);
        check.due("image(0)", x.image(0), true);
        check.due("undo() as before", x.undo(), 1);
        x.days(5);
        check.due("restore(1)", x.restore(1), true);
        check.due("ana", x.signer(0, 0), 5);
        check.due("the day", x.now(0), 0);
        check.due("nothing can be undone", x.undo(), -1);
        check.due("restore(0)", x.restore(0), true);
        check.due("cyd", x.signer(2, 0), 4);
        x.holds(2);
        check.due("restore(0) again", x.restore(0), true);
        check.due("cyd as kept", x.signer(2, 0), 4);
        x.restore(1);
        x.image(0);
        x.breaks(0);
        x.restore(0);
        check.due("kept anew", x.signer(2, 0), 9);
    }

    private static void imagesKeepAll() {
        SignedBridge x = Check.bridge(TEXT);
        Tape.put(x, "forged");
        x.sentence();
        x.cross(0);
        x.burn(0, 1);
        x.cross(1);
        x.die(1);
        x.image(0);
        Tape.put(x, "rows 7;keeps 9;signer zed 1 1;load bus 1 1;");
        x.bridge();
        x.image(1);
        Tape.put(x, "rows");
        check.due("restore(0)", x.restore(0), true);
        check.due("the tape stays", x.count(5), 4);
        check.due("rows", x.count(0), 2);
        check.due("keeps", x.count(4), 1);
        check.due("signers", x.count(1), 3);
        check.due("loads", x.count(2), 2);
        check.due("the sentence", x.said(0), 1);
        check.due("car crossed", x.load(0, 3), 1);
        check.due("van fell", x.now(3), 2);
        check.due("burnt", x.now(5), 1);
        check.due("singed", x.plank(0, 0, 2), 1);
        check.due("dead", x.now(1), 2);
        check.dueText("names", Check.plate(x, 0), "ana-gap-cyd");
        x.end(0);
        Tape.put(x, "ana holds;car crosses;");
        check.due("names of a book", x.book(0), -1);
        Tape.put(x, "dead");
        x.sentence();
        check.due("restore(1)", x.restore(1), true);
        check.due("rows of the other", x.count(0), 7);
        check.due("no sentence there", x.said(-1), -1);
        check.due("nobody died there", x.now(1), 0);
        x.restore(0);
        check.due("the sentence as kept", x.said(0), 1);
    }

    private static void counts() {
        SignedBridge x = Check.bridge("rows 5;keeps 7;signer a 1 1;signer b 1 1;load c 1 1;lovers a b;");
        Tape.put(x, "abc");
        int[] due = {5, 2, 1, 1, 7, 3, -1};
        for (int what = 0; what < due.length; what++) {
            check.due("count(" + what + ")", x.count(what), due[what]);
        }
        check.due("count(-1)", x.count(-1), -1);
        check.due("count(min)", x.count(Integer.MIN_VALUE), -1);
    }
}
