/**
 * The edges of what is asked of the BRIDGE: "Terms" behind "==== 3." and promises 18 to 38, sentence by sentence.
 * A comment over a test gives the document's words that it holds the class to.
 */
public final class EdgeAsksTest {
    private static final Check check = new Check("EdgeAsksTest");
    private static final int MIN = Integer.MIN_VALUE;
    private static final int MAX = Integer.MAX_VALUE;

    public static void main(String[] args) {
        noSuchLoad();
        noLoadsAtAll();
        noSuchRowOfAPath();
        sparesOfPaths();
        firstOfLikePaths();
        limitsAsTold();
        asksNothingOrNone();
        asksTheMost();
        asksWhoLives();
        asksWhateverHeHas();
        asksFirstOfLike();
        askedByTheLatest();
        keystoneOfNone();
        keystoneOfFew();
        ableOfNoneAndAll();
        cutOfNoneToThree();
        cutAtEdges();
        orderOfNoneAndSix();
        orderAtEdges();
        forgersPairs();
        forgersBytes();
        forgersSets();
        forgersOfRows();
        surelyAndTellsAheadOfAny();
        tellsAsNearly();
        lawAsTold();
        lawLeastAndMost();
        lawAtTheEnd();
        lastsFromNow();
        lastsAtTheEnd();
        tollsAsTold();
        platesAsTold();
        bytesOfPlates();
        drawnAsTold();
        drawnWrapsAround();
        drawnEachIfHeCan();
        drawnToTheEnd();
        oddsAsTold();
        oddsWrapAround();
        oddsToTheEnd();
        askingChangesNothing();
        check.close();
    }

    private static SignedBridge atDay(String text, int day) {
        SignedBridge x = Check.bridge(text);
        for (int left = day; left > 0; left -= 60) {
            x.days(Math.min(60, left));
        }
        check.due("DAY", x.now(0), day);
        return x;
    }

    /** What each call that takes a LOAD answers of it. */
    private static void noneOfLoad(SignedBridge x, int l) {
        check.due("cross(" + l + ")", x.cross(l), -1);
        check.due("spare(" + l + ")", x.spare(l), -1);
        check.due("path(" + l + ", 0)", x.path(l, 0), -1);
        check.due("asks(" + l + ")", x.asks(l), -1);
        check.due("cut(" + l + ")", x.cut(l), -1);
        check.due("law(" + l + ", 1)", x.law(l, 1), -1);
        check.due("lasts(" + l + ")", x.lasts(l), -1);
        check.due("toll(0, " + l + ")", x.toll(0, l), -1);
        check.due("odds(" + l + ", 1, 1)", x.odds(l, 1, 1), -1);
    }

    // promises 15, 18, 19, 21, 25, 32, 33, 34, 38: "NONE: .. no such one(s)"
    private static void noSuchLoad() {
        for (int loads = 1; loads <= 6; loads++) {
            StringBuilder text = new StringBuilder("rows 1;signer a 9 1;plank a 0 0;");
            for (int l = 0; l < loads; l++) {
                text.append("load ").append((char) ('p' + l)).append(" 30 1;");
            }
            SignedBridge x = Check.bridge(text.toString());
            for (int l : new int[] {MIN, -2, -1, loads, loads + 1, 31, 32, MAX}) {
                noneOfLoad(x, l);
            }
            int last = loads - 1;
            check.due("spare of the last", x.spare(last), 60);
            check.due("path of the last", x.path(last, 0), 0);
            check.due("asks of the last", x.asks(last), 0);
            check.due("cut of the last", x.cut(last), 1);
            check.due("law of the last", x.law(last, 1), 0);
            check.due("toll of the last", x.toll(0, last), 1);
            check.due("cross of the last", x.cross(last), 0);
        }
    }

    private static void noLoadsAtAll() {
        SignedBridge x = Check.bridge("rows 1;signer a 9 1;plank a 0 0;");
        for (int l : new int[] {MIN, -1, 0, 1, MAX}) {
            noneOfLoad(x, l);
            noneOfLoad(new SignedBridge(), l);
        }
        check.due("able()", x.able(), 0);
        check.due("order()", x.order(), 0);
        check.due("orderAt(0)", x.orderAt(0), -1);
        check.due("keystone()", x.keystone(), 0);
    }

    // Promise 19: "K in a ROW of the SAFEST PATH ..; NONE: there is none, no such ones."
    private static void noSuchRowOfAPath() {
        for (int rows = 1; rows <= 12; rows++) {
            StringBuilder text = new StringBuilder("rows " + rows + ";signer a 9 1;signer b 9 1;load p 90 1;load q 91 1;");
            for (int row = 0; row < rows; row++) {
                text.append("plank ").append(row < 6 ? 'a' : 'b').append(' ').append(row).append(" 2;");
            }
            SignedBridge x = Check.bridge(text.toString());
            for (int row = 0; row < rows; row++) {
                check.due("path(0, " + row + ")", x.path(0, row), 2);
                check.due("no PATH", x.path(1, row), -1);
            }
            for (int row : new int[] {MIN, -1, rows, rows + 1, MAX}) {
                check.due("path(0, " + row + ")", x.path(0, row), -1);
            }
        }
    }

    // Promise 18: "its least SPARE; NONE: there is none"; "to SPARE there: 999"
    private static void sparesOfPaths() {
        SignedBridge x = Check.bridge("rows 2;signer a 9 1;signer b 1 1;plank a 0 0;plank b 1 0;load p 10 1;load q 1 1;load r 11 1;");
        check.due("the least of its ROWS", x.spare(0), 0);
        check.due("a light one JUMPS over the least", x.spare(1), 89);
        check.due("K 0, then a JUMP", x.path(1, 0) * 10 + x.path(1, 1), 3);
        check.due("none", x.spare(2), -1);
        // the greatest least SPARE is asked for, not the greatest in one ROW
        SignedBridge y = Check.bridge("rows 2;signer a 9 1;signer b 5 1;signer c 4 1;plank a 0 0;plank b 0 2;plank c 1 0;"
                + "plank b 1 1;load p 10 1;");
        check.due("40 by either", y.spare(0), 40);
        check.due("the first of like ones", y.path(0, 0), 0);
        check.due("and K 1 behind it", y.path(0, 1), 1);
        // a FALLEN one has a PATH as others have
        SignedBridge z = Check.bridge("rows 1;signer a 3 1;plank a 0 0;load p 40 1;");
        z.cross(0);
        z.sign(0, 0, 1);
        z.holds(0);
        check.due("FALLEN, with a PATH", z.spare(0), 0);
    }

    // "of like ones the first: ROW by ROW the least K (a JUMP is 3)"
    private static void firstOfLikePaths() {
        StringBuilder all = new StringBuilder("rows 5;signer a 5 1;signer b 5 1;signer c 5 1;load p 20 1;load q 20 2;load h 9 1;");
        for (int place = 0; place < 15; place++) {
            all.append("plank ").append((char) ('a' + place / 6)).append(' ').append(place / 3).append(' ').append(place % 3)
                    .append(';');
        }
        SignedBridge x = Check.bridge(all.toString());
        for (int row = 0; row < 5; row++) {
            check.due("all alike", x.path(0, row), 0);
            check.due("all alike, wide", x.path(1, row), 0);
            check.due("41 by any, so no JUMP", x.path(2, row), 0);
        }
        // K 1 is the only one in the last ROW: K 0 as long as it can be
        x.burn(4, 0);
        x.burn(4, 2);
        x.sign(0, 4, 0);
        check.due("K 0 in ROW 3", x.path(2, 3), 0);
        // a JUMP comes last among like ones
        SignedBridge y = Check.bridge("rows 2;signer a 5 1;signer b 0 1;plank a 0 2;plank a 1 2;plank b 1 0;load h 9 1;");
        check.due("K 2 ahead of a JUMP", y.path(0, 0) * 10 + y.path(0, 1), 22);
        SignedBridge z = Check.bridge("rows 3;signer a 5 1;signer b 4 1;plank a 0 2;plank b 1 2;plank a 2 0;load h 9 1;");
        check.due("a JUMP where there is more to SPARE", z.path(0, 1), 3);
        check.due("behind it at any K", z.path(0, 2), 0);
    }

    // Promise 20: "(1 to 3) ..(0: it has none at all); NONE: no such one"
    private static void limitsAsTold() {
        SignedBridge x = Check.bridge("rows 2;signer a 9 1;signer b 9 1;lovers a b;plank a 0 0;plank b 0 1;plank a 0 2;"
                + "plank b 1 0;plank a 1 1;plank b 1 2;");
        check.due("limit(1)", x.limit(1), 100);
        check.due("limit(2)", x.limit(2), 195);
        check.due("the most that there is", x.limit(3), 290);
        for (int wide : new int[] {MIN, -1, 0, 4, 5, MAX}) {
            check.due("limit(" + wide + ")", x.limit(wide), -1);
        }
        SignedBridge none = new SignedBridge();
        for (int wide = 1; wide <= 3; wide++) {
            check.due("none at all", none.limit(wide), 0);
        }
        // a PATH of PLANKS that BEAR nothing
        SignedBridge nothing = Check.bridge("rows 1;signer a 0 1;plank a 0 0;load p 9 1;");
        check.due("nothing", nothing.limit(1), 0);
        // "without a JUMP", even if it may weigh 9 at most
        SignedBridge light = Check.bridge("rows 3;signer a 9 1;plank a 0 0;plank a 2 0;load p 9 1;");
        check.due("without a JUMP", light.limit(1), 0);
        light.sign(0, 1, 0);
        check.due("with a PLANK there", light.limit(1), 90);
        // a LOAD of this WEIGHT has a PATH, one of 1 more has none
        SignedBridge y = Check.bridge("rows 2;signer a 7 1;signer b 5 1;plank a 0 0;plank a 0 1;plank b 1 1;plank b 1 2;"
                + "load p 50 1;load q 51 1;load r 100 2;load s 101 2;");
        check.due("limit(1) is 50", y.limit(1), 50);
        check.due("50", y.spare(0), 0);
        check.due("51", y.spare(1), -1);
        check.due("limit(2) is 100", y.limit(2), 100);
        check.due("100", y.spare(2), 0);
        check.due("101", y.spare(3), -1);
    }

    // Promise 21: "MILES (0: it has a PATH); NONE: it can't be, no such one"
    private static void asksNothingOrNone() {
        SignedBridge x = Check.bridge("rows 2;signer a 3 1;plank a 0 0;plank a 1 0;load p 30 1;load q 31 1;load r 61 2;load s 90 3;"
                + "load t 91 3;");
        check.due("it has a PATH", x.asks(0), 0);
        check.due("31 by nobody", x.asks(1), -1);
        check.due("61 by nobody on two", x.asks(2), -1);
        check.due("90 on three", x.asks(3), 4);
        check.due("91 by nobody on three", x.asks(4), -1);
        SignedBridge nobody = Check.bridge("rows 2;load p 10 1;load q 9 1;");
        check.due("no SIGNERS", nobody.asks(0), -1);
        check.due("no SIGNERS, and two ROWS to JUMP over", nobody.asks(1), -1);
        SignedBridge one = Check.bridge("rows 1;load q 9 3;");
        check.due("a JUMP is a PATH", one.asks(0), 0);
        SignedBridge forger = Check.bridge("rows 1;signer f 9 1 forger;load p 10 1;load q 9 1;");
        check.due("a forger alone", forger.asks(0), -1);
        // PLANKS that there are stay: no place is signed twice
        SignedBridge weak = Check.bridge("rows 1;signer a 1 1;signer b 9 1;plank a 0 0;plank a 0 1;plank a 0 2;load p 11 1;");
        check.due("no gap", weak.asks(0), -1);
        weak.burn(0, 2);
        check.due("one gap", weak.asks(0), 1);
        check.due("is signed", weak.asked(0, 2), 1);
    }

    // "the fewest MILES in all (of each the SIGNER's MILES)"
    private static void asksTheMost() {
        SignedBridge x = Check.bridge("rows 12;signer a 9 9;load p 270 3;load q 271 3;load r 90 1;load s 9 1;");
        check.due("36 gaps of 9 MILES", x.asks(0), 324);
        for (int place = 0; place < 36; place++) {
            check.due("asked at " + place, x.asked(place / 3, place % 3), 0);
        }
        check.due("none more", x.asks(1), -1);
        check.due("the latest that was not NONE", x.asked(11, 2), 0);
        check.due("12 gaps", x.asks(2), 108);
        check.due("K 0 of the last ROW", x.asked(11, 0), 0);
        check.due("K 1 is not asked for", x.asked(11, 1), -1);
        // every second ROW is jumped over: the least K ahead, so ROW 0 is signed
        check.due("six gaps and six JUMPS", x.asks(3), 54);
        for (int row = 0; row < 12; row++) {
            check.due("ROW " + row, x.asked(row, 0), row % 2 == 0 ? 0 : -1);
        }
        // ten SIGNERS, of whom only the last two bear enough
        StringBuilder ten = new StringBuilder("rows 1;load p 85 1;load q 255 3;");
        for (int s = 0; s < 10; s++) {
            ten.append("signer ").append((char) ('a' + s)).append(' ').append(s).append(' ').append(s < 9 ? 1 : 3).append(';');
        }
        SignedBridge y = Check.bridge(ten.toString());
        check.due("the last one", y.asks(0), 3);
        check.due("is asked", y.asked(0, 0), 9);
        // 255: 90 90 80, in whatever order: the least SIGNERS ahead
        check.due("three", y.asks(1), 7);
        check.due("first", y.asked(0, 0), 8);
        check.due("second", y.asked(0, 1), 9);
        check.due("third", y.asked(0, 2), 9);
    }

    // "by SIGNERS who live"
    private static void asksWhoLives() {
        SignedBridge x = Check.bridge("rows 1;signer a 9 1;signer b 9 5;load p 50 1;");
        check.due("the nearest", x.asks(0), 1);
        x.die(0);
        check.due("the other one", x.asks(0), 5);
        check.due("is asked", x.asked(0, 0), 1);
        x.die(1);
        check.due("nobody", x.asks(0), -1);
        check.due("the latest stays", x.asked(0, 0), 1);
        // the PLANKS of the dead bear all the same
        SignedBridge y = Check.bridge("rows 1;signer a 9 1;signer b 5 5;plank a 0 0;load p 140 2;");
        y.die(0);
        check.due("beside a dead one's", y.asks(0), 5);
        check.due("at K 1", y.asked(0, 1), 1);
    }

    // "(each as often as is needed, whatever he has)"
    private static void asksWhateverHeHas() {
        SignedBridge x = Check.bridge("rows 8;signer a 5 2;plank a 0 0;plank a 1 0;plank a 2 0;plank a 3 0;plank a 4 0;"
                + "plank a 5 0;load p 50 1;load q 150 3;");
        check.due("he has 6", x.sign(0, 6, 0), 3);
        check.due("and is asked twice", x.asks(0), 4);
        check.due("or as often as is needed", x.asks(1), 2 * (24 - 6));
        check.due("he signed nothing", x.signer(0, 6), 6);
    }

    // "of like ones the first: ROW by ROW the least K, then at its gaps, one behind the other, the least SIGNERS"
    private static void asksFirstOfLike() {
        SignedBridge x = Check.bridge("rows 3;signer a 5 3;signer b 5 3;plank b 0 2;load p 50 1;load q 100 2;");
        // p: K 2 in ROW 0 is free, then K 1, K 0
        check.due("p", x.asks(0), 6);
        check.due("K 1 in ROW 1", x.asked(1, 1), 0);
        check.due("K 0 in ROW 2", x.asked(2, 0), 0);
        check.due("nobody at K 2", x.asked(1, 2), -1);
        // q: K 1 in ROW 0 is the nearest, then K 0, K 0
        check.due("q", x.asks(1), 15);
        check.due("a at K 1", x.asked(0, 1), 0);
        check.due("nobody at K 2, where b is", x.asked(0, 2), -1);
        for (int place = 0; place < 2; place++) {
            check.due("a in ROW 1", x.asked(1, place), 0);
            check.due("a in ROW 2", x.asked(2, place), 0);
        }
        // the gaps of a ROW one behind the other: the first gap by the least SIGNER
        SignedBridge y = Check.bridge("rows 1;signer a 4 1;signer b 5 2;load p 90 2;load q 140 3;load r 130 3;");
        check.due("40 and 50", y.asks(0), 3);
        check.due("a ahead", y.asked(0, 0) * 10 + y.asked(0, 1), 1);
        check.due("40, 50 and 50", y.asks(1), 5);
        check.due("a, b, b", y.asked(0, 0) * 100 + y.asked(0, 1) * 10 + y.asked(0, 2), 11);
        check.due("40, 40 and 50", y.asks(2), 4);
        check.due("a, a, b", y.asked(0, 0) * 100 + y.asked(0, 1) * 10 + y.asked(0, 2), 1);
    }

    // Promise 22: "by the latest asks() that was not NONE; NONE: nobody, no such one, or ahead of any"
    private static void askedByTheLatest() {
        SignedBridge x = Check.bridge("rows 2;signer a 5 1;load p 50 1;load q 51 1;load r 50 2;");
        for (int place = 0; place < 6; place++) {
            check.due("ahead of any", x.asked(place / 3, place % 3), -1);
        }
        check.due("one that is NONE", x.asks(1), -1);
        check.due("is none", x.asked(0, 0), -1);
        check.due("one that is not", x.asks(0), 2);
        check.due("ROW 0", x.asked(0, 0), 0);
        check.due("ROW 1", x.asked(1, 0), 0);
        check.due("NONE behind it", x.asks(1), -1);
        check.due("no such LOAD behind it", x.asks(3), -1);
        check.due("leaves it", x.asked(1, 0), 0);
        for (int wrong : new int[] {MIN, -1, 3, 4, MAX, 1431655766, -1431655765}) {
            check.due("asked(" + wrong + ", 0)", x.asked(wrong == 3 ? 2 : wrong, 0), -1);
            check.due("asked(0, " + wrong + ")", x.asked(0, wrong), -1);
        }
        x.sign(0, 0, 0);
        x.sign(0, 1, 0);
        check.due("what is signed then leaves it", x.asked(1, 0), 0);
        check.due("0 is not NONE", x.asks(0), 0);
        check.due("nobody now", x.asked(1, 0), -1);
    }

    // Promise 23: "NONE: there are no SIGNERS."
    private static void keystoneOfNone() {
        check.due("a new object", new SignedBridge().keystone(), -1);
        check.due("LOADS alone", Check.bridge("rows 1;load p 9 1;").keystone(), -1);
        check.due("a SIGNER alone", Check.bridge("signer a 1 1;").keystone(), 0);
        check.due("two, nothing else", Check.bridge("signer a 1 1;signer b 1 1;").keystone(), 0);
        SignedBridge six = Check.bridge("rows 1;signer a 9 1;load p 9 1;load q 9 1;load r 9 1;load s 9 1;load t 9 1;load u 9 1;");
        check.due("all six JUMP whoever is gone", six.keystone(), 0);
    }

    // "the SIGNER without whose PLANKS fewest LOADS (not FALLEN) have a PATH; of like ones the first"
    private static void keystoneOfFew() {
        StringBuilder text = new StringBuilder("rows 10;load p 90 1;load q 91 1;");
        for (int s = 0; s < 10; s++) {
            text.append("signer ").append((char) ('a' + s)).append(" 9 1;plank ").append((char) ('a' + s)).append(' ').append(s)
                    .append(" 1;");
        }
        SignedBridge x = Check.bridge(text.toString());
        check.due("each of ten alike", x.keystone(), 0);
        // the next SIGNER's PLANK in each ROW: he who has it alone is the next one
        for (int s = 0; s < 9; s++) {
            check.due("another PLANK in ROW " + s, x.sign(s + 1, s, 0), 0);
            check.due("the next one", x.keystone(), s + 1);
        }
        check.due("another PLANK in ROW 9", x.sign(0, 9, 0), 0);
        check.due("again each alike", x.keystone(), 0);
        // the last one of ten
        StringBuilder last = new StringBuilder("rows 1;load p 50 1;");
        for (int s = 0; s < 10; s++) {
            last.append("signer ").append((char) ('a' + s)).append(s == 9 ? " 5 1;" : " 4 1;");
        }
        SignedBridge y = Check.bridge(last + "plank a 0 0;plank j 0 1;plank b 0 2;");
        check.due("the tenth", y.keystone(), 9);
        // a FALLEN one is not counted: without it the other SIGNER is the first
        SignedBridge z = Check.bridge("rows 1;signer a 3 1;signer b 5 1;plank a 0 0;plank b 0 2;load p 60 1;load q 31 1;load r 20 1;");
        check.due("q by b alone", z.keystone(), 1);
        z.burn(0, 2);
        z.cross(1);
        z.sign(0, 0, 0);
        z.sign(1, 0, 2);
        check.due("q has FALLEN: r by both", z.keystone(), 0);
        check.due("q would have a PATH", z.spare(1), 19);
    }

    // Promise 24: "How many LOADS (not FALLEN) have a PATH now."
    private static void ableOfNoneAndAll() {
        check.due("no LOADS", new SignedBridge().able(), 0);
        String loads = "load p 30 1;load q 30 1;load r 30 1;load s 30 1;load t 30 1;load u 30 1;";
        SignedBridge none = Check.bridge("rows 1;" + loads);
        check.due("no PLANKS", none.able(), 0);
        SignedBridge all = Check.bridge("rows 1;signer a 3 1;plank a 0 0;" + loads);
        check.due("all six", all.able(), 6);
        all.breaks(0);
        check.due("30 is too much", all.able(), 0);
        all.undo();
        for (int l = 0; l < 5; l++) {
            all.burn(0, 0);
            all.cross(l);
            all.sign(0, 0, 0);
            check.due("less those that have FALLEN", all.able(), 5 - l);
        }
    }

    private static void cut(SignedBridge x, int l, int size, int... places) {
        check.due("cut(" + l + ")", x.cut(l), size);
        for (int i = 0; i < places.length; i++) {
            check.due("cutAt(" + i + ")", x.cutAt(i), places[i]);
        }
        if (size != -1) {
            for (int i : new int[] {MIN, -1, size, size + 1, 3, 4, MAX}) {
                check.due("cutAt(" + i + ") of " + size, x.cutAt(i), -1);
            }
        }
    }

    // "the fewest PLANKS (3 at most)"; promise 25: "(0: it has no PATH); NONE: more than 3, no such one"
    private static void cutOfNoneToThree() {
        StringBuilder twelve = new StringBuilder("rows 12;load p 10 1;load q 10 2;load r 10 3;load s 300 3;load h 9 1;");
        for (int s = 0; s < 6; s++) {
            twelve.append("signer ").append((char) ('a' + s)).append(" 9 1;");
        }
        for (int place = 0; place < 36; place++) {
            twelve.append("plank ").append((char) ('a' + place / 6)).append(' ').append(place / 3).append(' ').append(place % 3)
                    .append(';');
        }
        SignedBridge x = Check.bridge(twelve.toString());
        cut(x, 0, 3, 0, 1, 2);
        cut(x, 1, 1, 1);
        cut(x, 2, 1, 0);
        cut(x, 3, 0);
        cut(x, 4, -1);
        // the last ROW alone has two, then one
        check.due("burn the last place", x.burn(11, 2), 0);
        cut(x, 0, 2, 33, 34);
        check.due("burn the place ahead of it", x.burn(11, 1), 0);
        cut(x, 0, 1, 33);
        check.due("burn the last one", x.burn(11, 0), 0);
        cut(x, 0, 0);
        // a light one over two ROWS: 1 and 2, then 1 and 3, which are more than 3
        SignedBridge y = Check.bridge("rows 2;signer a 9 1;plank a 0 2;plank a 1 1;plank a 1 2;load h 9 1;load p 10 1;");
        cut(y, 0, 3, 2, 4, 5);
        y.sign(0, 1, 0);
        cut(y, 0, -1);
        cut(y, 1, 1, 2);
        check.due("nothing was lost", y.now(2), 4);
        SignedBridge one = Check.bridge("rows 1;signer a 9 1;plank a 0 0;load h 9 1;");
        cut(one, 0, -1);
    }

    // Promise 26: "by the latest cut() that was not NONE; NONE: none such, or ahead of any"
    private static void cutAtEdges() {
        SignedBridge x = Check.bridge("rows 1;signer a 9 1;plank a 0 0;plank a 0 1;plank a 0 2;load p 10 1;load h 9 1;load q 200 1;");
        for (int i = -1; i < 4; i++) {
            check.due("ahead of any", x.cutAt(i), -1);
        }
        cut(x, 0, 3, 0, 1, 2);
        check.due("more than 3", x.cut(1), -1);
        check.due("no such one", x.cut(3), -1);
        check.due("leave it", x.cutAt(2), 2);
        x.burn(0, 0);
        x.image(0);
        x.restore(0);
        x.bridge();
        check.due("it stays as told", x.cutAt(0), 0);
        x.restore(0);
        cut(x, 2, 0);
    }

    // "all LOADS that are not FALLEN cross, one behind the other, so that the most do; .. the least LOAD ahead"
    private static void orderOfNoneAndSix() {
        SignedBridge none = new SignedBridge();
        check.due("no LOADS", none.order(), 0);
        check.due("none ahead", none.orderAt(0), -1);
        String loads = "load p 30 1;load q 30 1;load r 30 1;load s 30 1;load t 30 1;load u 30 1;";
        SignedBridge all = Check.bridge("rows 1;signer a 3 1;plank a 0 0;" + loads);
        check.due("all six", all.order(), 6);
        for (int i = 0; i < 6; i++) {
            check.due("one by one", all.orderAt(i), i);
        }
        check.due("and no more", all.orderAt(6), -1);
        all.burn(0, 0);
        check.due("none crosses", all.order(), 0);
        for (int i = 0; i < 6; i++) {
            check.due("they are in order all the same", all.orderAt(i), i);
        }
        for (int l = 0; l < 6; l++) {
            all.cross(l);
            check.due("those that have FALLEN are not", all.order(), 0);
            check.due("the first of the others", all.orderAt(0), l == 5 ? -1 : l + 1);
            check.due("as many as there are", all.orderAt(5 - l), -1);
        }
        // the first load would fall with the PLANK of all others
        SignedBridge last = Check.bridge("rows 1;signer a 3 1;plank a 0 0;load p 31 1;load q 30 1;load r 30 1;load s 30 1;"
                + "load t 30 1;load u 30 1;");
        check.due("five", last.order(), 5);
        for (int i = 0; i < 6; i++) {
            check.due("it goes last", last.orderAt(i), (i + 1) % 6);
        }
        // one fall is no harm, two are: the second one that falls waits
        SignedBridge two = Check.bridge("rows 1;signer a 3 1;signer b 5 1;plank a 0 0;plank b 0 2;load p 60 1;load q 61 1;load r 30 1;");
        check.due("one", two.order(), 1);
        check.due("p falls with b's", two.orderAt(0), 0);
        check.due("r crosses by a's", two.orderAt(1), 2);
        check.due("then q", two.orderAt(2), 1);
    }

    // Promise 28: "by the latest order(); NONE: none such, or ahead of any"
    private static void orderAtEdges() {
        SignedBridge x = Check.bridge("rows 1;load p 9 1;load q 9 1;");
        for (int i = -1; i < 7; i++) {
            check.due("ahead of any", x.orderAt(i), -1);
        }
        check.due("order()", x.order(), 2);
        for (int i : new int[] {MIN, -2, -1, 2, 3, 6, MAX}) {
            check.due("orderAt(" + i + ")", x.orderAt(i), -1);
        }
        x.bridge();
        check.due("it stays", x.orderAt(1), 1);
        check.due("order() of none", x.order(), 0);
        check.due("the latest", x.orderAt(0), -1);
    }

    private static int forgers(SignedBridge x, int... bytes) {
        StringBuilder out = new StringBuilder();
        for (int b : bytes) {
            out.append((char) b);
        }
        x.end(0);
        Tape.put(x, out.toString());
        int sets = x.forgers();
        check.due("the tape is empty then", x.count(5), 0);
        return sets;
    }

    // "pairs of bytes ..; 1 to 6 of them"; promise 29: "NONE: not as told"
    private static void forgersPairs() {
        SignedBridge x = Check.bridge("rows 1;signer a 9 1;plank a 0 0;load p 10 1;");
        for (int size = 0; size <= 20; size++) {
            int[] bytes = new int[size];
            for (int i = 1; i < size; i += 2) {
                bytes[i] = 1;
            }
            boolean asTold = size >= 2 && size <= 12 && size % 2 == 0;
            check.due(size + " bytes", forgers(x, bytes), asTold ? 1 : -1);
        }
        x.end(0);
        for (int i = 0; i < 47; i++) {
            x.feed(1, 0x00010001, 0x00010001, 0x00010001, 0x00010001);
        }
        check.due("a full tape", x.forgers(), -1);
        check.due("is empty then", x.count(5), 0);
    }

    // "a LOAD, 1: it has a PATH, 0: it has none"
    private static void forgersBytes() {
        SignedBridge x = null;
        for (int b = 0; b < 256; b++) {
            x = Check.bridge("rows 1;signer a 9 1;plank a 0 0;load p 10 1;load q 10 1;");
            check.due("LOAD " + b, forgers(x, b, 1), b < 2 ? 1 : -1);
            check.due("has " + b, forgers(x, 0, b), b < 2 ? 1 : -1);
            check.due("LOAD " + b + " behind another", forgers(x, 0, 1, b, 1), b < 2 ? 1 : -1);
        }
        check.due("blanks are bytes as others are", forgers(x, 32, 10), -1);
        SignedBridge none = Check.bridge("rows 1;signer a 9 1;");
        check.due("no LOADS", forgers(none, 0, 0), -1);
    }

    // "sets of SIGNERS, by which, if they were the forgers, all would be so now"
    private static void forgersSets() {
        StringBuilder ten = new StringBuilder("rows 1;load p 10 1;load q 9 1;load r 300 1;");
        for (int s = 0; s < 10; s++) {
            ten.append("signer ").append((char) ('a' + s)).append(" 9 1;");
        }
        SignedBridge x = Check.bridge(ten + "plank a 0 0;plank j 0 2;");
        check.due("all sets of ten", forgers(x, 1, 1), 1024);
        check.due("surely nobody", x.surely(), 0);
        check.due("but those of both", forgers(x, 0, 1), 768);
        check.due("those of both", forgers(x, 0, 0), 256);
        check.due("surely the first and the last", x.surely(), 513);
        check.due("none", forgers(x, 2, 1), 0);
        check.due("surely() stays", x.surely(), 513);
        check.due("against itself", forgers(x, 0, 1, 0, 0), 0);
        check.due("twice the same", forgers(x, 0, 0, 0, 0), 256);
        SignedBridge nobody = Check.bridge("rows 1;load p 9 1;load q 10 1;");
        check.due("no SIGNERS: the empty set", forgers(nobody, 0, 1, 1, 0), 1);
        check.due("has nobody in it", nobody.surely(), 0);
        check.due("no SIGNERS: none", forgers(nobody, 0, 0), 0);
        // who is told to be a forger does not matter
        SignedBridge told = Check.bridge("rows 1;signer a 9 1 forger;plank a 0 0;load p 10 1;");
        check.due("he forged not", forgers(told, 0, 1), 1);
        check.due("surely nobody", told.surely(), 0);
        check.due("he forged", forgers(told, 0, 0), 1);
        check.due("surely he", told.surely(), 1);
        // a wide one has need of nine, the tenth is free
        StringBuilder nine = new StringBuilder("rows 3;load w 270 3;");
        for (int s = 0; s < 10; s++) {
            nine.append("signer ").append((char) ('a' + s)).append(" 9 1;");
        }
        for (int place = 0; place < 9; place++) {
            nine.append("plank ").append((char) ('a' + place)).append(' ').append(place / 3).append(' ').append(place % 3).append(';');
        }
        SignedBridge y = Check.bridge(nine.toString());
        check.due("none of the nine", forgers(y, 0, 1), 2);
        check.due("one of the nine", forgers(y, 0, 0), 1022);
        check.due("surely nobody", y.surely(), 0);
        // a light one has none if all six of two ROWS forged
        StringBuilder six = new StringBuilder("rows 2;load p 9 1;");
        for (int s = 0; s < 10; s++) {
            six.append("signer ").append((char) ('a' + s)).append(" 9 1;");
        }
        for (int place = 0; place < 6; place++) {
            six.append("plank ").append((char) ('e' + place)).append(' ').append(place / 3).append(' ').append(place % 3).append(';');
        }
        SignedBridge z = Check.bridge(six.toString());
        check.due("all six", forgers(z, 0, 0), 16);
        check.due("surely the last six", z.surely(), 1008);
        check.due("not all six", forgers(z, 0, 1), 1008);
    }

    // the same over all ROWS, by all LOADS, and each ROW by its own three places
    private static void forgersOfRows() {
        StringBuilder text = new StringBuilder("rows 12;signer a 9 1;signer b 9 1;signer c 0 1;");
        for (int l = 0; l < 6; l++) {
            text.append("load ").append((char) ('p' + l)).append(l < 3 ? " 90 1;" : l < 5 ? " 91 1;" : " 9 1;");
        }
        for (int row = 0; row < 12; row++) {
            text.append("plank ").append(row < 6 ? 'a' : 'b').append(' ').append(row).append(" 1;");
        }
        SignedBridge x = Check.bridge(text.toString());
        check.due("neither a nor b", forgers(x, 0, 1, 1, 1, 2, 1, 3, 0, 4, 0, 5, 1), 2);
        check.due("surely nobody", x.surely(), 0);
        check.due("a, b or both", forgers(x, 2, 0), 6);
        check.due("the light one, too", forgers(x, 5, 0), 6);
        check.due("91 by none", forgers(x, 4, 1), 0);
        check.due("six PLANKS of a", x.toll(0, 0), 6);
        check.due("six PLANKS of b", x.toll(1, 2), 6);
        check.due("none of c", x.toll(2, 2), 0);
        // b's forged PLANK at the beginning of ROW 1 is not one of ROW 0
        SignedBridge y = Check.bridge("rows 2;signer a 9 1;signer b 9 1;plank a 0 0;plank b 1 0;plank a 1 2;load p 10 1;");
        check.due("neither", forgers(y, 0, 1), 1);
        check.due("the others", forgers(y, 0, 0), 3);
        // a forged PLANK is a PLANK that BEARS nothing: not 1, and not a gap
        SignedBridge z = Check.bridge("rows 1;signer a 9 1;signer b 9 1;plank a 0 0;plank b 0 1;load p 90 2;load q 91 2;");
        check.due("90 on both by one of them", forgers(z, 0, 1), 3);
        check.due("91 by both alone", forgers(z, 1, 1), 1);
        check.due("0 is not 1", forgers(z, 0, 1, 1, 0), 2);
    }

    // promises 30 and 31: "by the latest forgers() that was 1 or more; NONE ahead of any", "NONE: no LOADS, or ahead of any"
    private static void surelyAndTellsAheadOfAny() {
        SignedBridge x = Check.bridge("rows 1;signer a 9 1;plank a 0 0;load p 10 1;load q 10 1;");
        check.due("surely() ahead of any", x.surely(), -1);
        check.due("tells() ahead of any", x.tells(), -1);
        forgers(x);
        check.due("surely() behind NONE", x.surely(), -1);
        check.due("tells() behind NONE", x.tells(), -1);
        check.due("0", forgers(x, 0, 1, 1, 0), 0);
        check.due("surely() behind 0", x.surely(), -1);
        check.due("tells() behind 0", x.tells(), -1);
        check.due("1", forgers(x, 0, 0), 1);
        check.due("surely() behind 1", x.surely(), 1);
        check.due("tells() behind 1", x.tells(), 0);
        check.due("0 again", forgers(x, 0, 1, 1, 0), 0);
        check.due("NONE again", forgers(x, 7, 7), -1);
        check.due("surely() stays", x.surely(), 1);
        x.bridge();
        check.due("behind another BRIDGE", x.surely(), 1);
        check.due("as it was then", x.tells(), 0);
    }

    // "the LOAD that has a PATH by as many of these sets as not, as nearly as may be (of like ones the first)"
    private static void tellsAsNearly() {
        String three = "rows 1;signer a 5 1;signer b 4 1;signer c 3 1;plank a 0 0;plank b 0 1;plank c 0 2;";
        // of 8 sets: 50 by 4, 40 by 6, 30 by 7, 51 by none
        SignedBridge x = Check.bridge(three + "load p 30 1;load q 40 1;load r 50 1;load s 51 1;load h 9 1;");
        check.due("all", forgers(x, 4, 1), 8);
        check.due("by just half", x.tells(), 2);
        SignedBridge near = Check.bridge(three + "load s 51 1;load p 30 1;load q 40 1;load h 9 1;");
        check.due("all", forgers(near, 3, 1), 8);
        check.due("6 of 8 is nearer than 7, 0 and 8", near.tells(), 2);
        SignedBridge like = Check.bridge(three + "load s 51 1;load h 9 1;load t 52 1;");
        check.due("all", forgers(like, 1, 1), 8);
        check.due("none and all are alike: the first", like.tells(), 0);
        // as many above the half as below it: the first. Of 8 sets: 90 on the two of a and b by 2, 40 by 6
        SignedBridge both = Check.bridge(three + "load q 40 1;load w 90 2;load h 9 1;");
        check.due("all", forgers(both, 2, 1), 8);
        check.due("6 and 2 are alike", both.tells(), 0);
        SignedBridge other = Check.bridge(three + "load w 90 2;load q 40 1;load h 9 1;");
        check.due("all", forgers(other, 2, 1), 8);
        check.due("2 and 6 are alike", other.tells(), 0);
        // an odd number of sets: 3 of 7 (by 4 it has none) is as near as 4 of 7
        SignedBridge odd = Check.bridge(three + "load p 30 1;load r 50 1;load q 40 1;");
        check.due("7", forgers(odd, 0, 1), 7);
        check.due("50 by 4 of 7", odd.tells(), 1);
        // the last one of six
        SignedBridge six = Check.bridge(three + "load s 51 1;load t 51 1;load u 51 1;load v 51 1;load h 9 1;load r 50 1;");
        check.due("all", forgers(six, 4, 1), 8);
        check.due("the sixth", six.tells(), 5);
    }

    // Promise 32: "n (1 to 60) DAYS: 'keeps'; NONE: by none, no such ones"
    private static void lawAsTold() {
        SignedBridge x = Check.bridge("rows 1;signer a 3 1;plank a 0 0;load p 30 1;load q 31 1;load h 9 1;");
        for (int n = 1; n <= 60; n++) {
            check.due("law(0, " + n + ")", x.law(0, n), 0);
            check.due("law(1, " + n + ")", x.law(1, n), -1);
            check.due("law(2, " + n + ")", x.law(2, n), 0);
        }
        for (int n : new int[] {MIN, -60, -1, 0, 61, 62, 400, MAX}) {
            check.due("law(0, " + n + ")", x.law(0, n), -1);
        }
    }

    // "the least 'keeps' (0 to 30) by which a LOAD has a PATH at the beginning of each of n DAYS from now on (this one, too)"
    private static void lawLeastAndMost() {
        SignedBridge x = Check.bridge("rows 1;keeps 7;signer a 3 1;plank a 0 0;load p 30 1;");
        x.die(0);
        for (int n = 1; n <= 60; n++) {
            // by 'keeps' k it is there at the beginning of this DAY and of k more
            check.due("dead now, law of " + n, x.law(0, n), n <= 31 ? n - 1 : -1);
        }
        x.days(4);
        // by 0 to 3 his DAY is over: it stays his
        check.due("dead for four DAYS", x.law(0, 60), 0);
        check.due("'keeps' stays", x.count(4), 7);
        check.due("the DAY stays", x.now(0), 4);
        // two who died: by 0 the first one's DAY is over, the second one's is today
        SignedBridge two = Check.bridge("rows 2;keeps 7;signer a 3 1;signer b 3 1;plank a 0 0;plank b 1 0;load p 30 1;load h 9 1;");
        two.die(0);
        two.days(1);
        two.die(1);
        check.due("this DAY", two.law(0, 1), 0);
        // by 0 b's is lost today; by 1 a's is lost today, by 2 tomorrow: then b's still is there
        check.due("two DAYS", two.law(0, 2), 2);
        check.due("thirty DAYS", two.law(0, 30), 30);
        check.due("31 DAYS", two.law(0, 31), -1);
        check.due("a light one by either", two.law(1, 60), 0);
        // not now: by none
        SignedBridge none = Check.bridge("rows 1;load p 30 1;");
        check.due("this one, too", none.law(0, 1), -1);
        // the heir's PLANK may bear more than that of the dead: by 0 from the next DAY on, but not now
        SignedBridge heir = Check.bridge("rows 1;keeps 0;signer a 2 1;signer b 3 1;heir a b;plank a 0 0;load p 30 1;load q 20 1;");
        heir.die(0);
        check.due("not now", heir.law(0, 2), -1);
        check.due("now and later", heir.law(1, 60), 0);
    }

    // LAW at the end of all DAYS
    private static void lawAtTheEnd() {
        SignedBridge x = atDay("rows 1;keeps 0;signer a 3 1;plank a 0 0;load p 30 1;", 399);
        x.die(0);
        check.due("DAY 399 alone", x.law(0, 1), 0);
        check.due("DAY 400, too", x.law(0, 2), 1);
        check.due("no DAY is behind it", x.law(0, 60), 1);
        SignedBridge y = atDay("rows 1;keeps 0;signer a 3 1;plank a 0 0;load p 30 1;load q 31 1;", 400);
        y.die(0);
        check.due("all are over", y.law(0, 60), 0);
        check.due("by none", y.law(1, 60), -1);
    }

    // "the first DAY (200 from now on at most, ..) at whose beginning it has none"; promise 33: "(now: it has none); NONE: not so soon"
    private static void lastsFromNow() {
        for (int keeps = 0; keeps <= 30; keeps++) {
            SignedBridge x = Check.bridge("rows 1;keeps " + keeps + ";signer a 3 1;plank a 0 0;load p 30 1;load q 31 1;load h 9 1;");
            check.due("while he lives", x.lasts(0), -1);
            check.due("now: it has none", x.lasts(1), 0);
            x.days(9);
            check.due("now, later", x.lasts(1), 9);
            x.die(0);
            check.due("by 'keeps' " + keeps, x.lasts(0), 10 + keeps);
            check.due("a light one", x.lasts(2), -1);
            check.due("the DAY stays", x.now(0), 9);
            x.days(keeps + 1);
            check.due("then it is now", x.lasts(0), 10 + keeps);
        }
        // an heir's PLANK that bears too little is as none
        SignedBridge heir = Check.bridge("rows 1;keeps 30;signer a 3 1;signer b 2 1;heir a b;plank a 0 0;load p 30 1;load q 20 1;");
        heir.die(0);
        check.due("as long as it is kept", heir.lasts(0), 31);
        check.due("and on", heir.lasts(1), -1);
    }

    // "(.., DAY 400 too)"
    private static void lastsAtTheEnd() {
        String text = "rows 1;keeps 3;signer a 3 1;plank a 0 0;load p 30 1;load q 31 1;";
        for (int day = 394; day <= 400; day++) {
            SignedBridge x = atDay(text, day);
            check.due("now", x.lasts(1), day);
            x.die(0);
            check.due("died on " + day, x.lasts(0), day + 4 <= 400 ? day + 4 : -1);
        }
    }

    // Promise 34: "how many PLANKS of his ..; NONE: there is none, no such ones"
    private static void tollsAsTold() {
        SignedBridge x = Check.bridge("rows 3;signer a 5 1;signer b 5 1;signer c 5 1;plank a 0 0;plank a 0 1;plank a 0 2;"
                + "plank a 1 0;plank a 1 1;plank a 1 2;plank b 2 0;plank b 2 1;plank b 2 2;load p 150 3;load q 151 3;load r 50 1;"
                + "load h 9 1;");
        check.due("six of his", x.toll(0, 0), 6);
        check.due("three of his", x.toll(1, 0), 3);
        check.due("none of his", x.toll(2, 0), 0);
        check.due("there is no PATH", x.toll(0, 1), -1);
        check.due("one in each ROW", x.toll(0, 2), 2);
        check.due("the last ROW", x.toll(1, 2), 1);
        for (int s : new int[] {MIN, -1, 3, 10, MAX}) {
            check.due("toll(" + s + ", 0)", x.toll(s, 0), -1);
        }
        SignedBridge over = Check.bridge("rows 1;signer a 9 1;plank a 0 0;load h 9 1;");
        check.due("it JUMPS over his", over.toll(0, 0), 0);
        check.due("no SIGNERS", Check.bridge("rows 1;load h 9 1;").toll(0, 0), -1);
    }

    // "its three places, '-' between them: the NAME of the SIGNER, 'gap'"; promise 35: "how many bytes; NONE: no such one"
    private static void platesAsTold() {
        SignedBridge x = Check.bridge("rows 12;signer a 1 1;signer zzzzzzz 1 1;signer gap 1 1;plank zzzzzzz 11 0;plank zzzzzzz 11 1;"
                + "plank zzzzzzz 11 2;plank a 10 0;plank a 10 1;plank a 10 2;plank gap 9 1;");
        check.due("three gaps", x.plate(0), 11);
        check.dueText("three gaps", Check.plate(x, 0), "gap-gap-gap");
        check.due("the longest", x.plate(11), 23);
        check.dueText("the longest", Check.plate(x, 11), "zzzzzzz-zzzzzzz-zzzzzzz");
        check.due("the shortest", x.plate(10), 5);
        check.dueText("the shortest", Check.plate(x, 10), "a-a-a");
        check.dueText("one whose NAME is gap", Check.plate(x, 9), "gap-gap-gap");
        for (int row : new int[] {MIN, -1, 12, 13, MAX, 1431655766}) {
            check.due("plate(" + row + ")", x.plate(row), -1);
        }
        check.due("a ROW more than there are", Check.bridge("rows 1;").plate(1), -1);
    }

    // Promise 36: "Byte i of the latest PLATE; NONE: none such."
    private static void bytesOfPlates() {
        SignedBridge x = Check.bridge("rows 2;signer a 1 1;signer zzzzzzz 1 1;plank a 0 0;plank a 0 1;plank a 0 2;"
                + "plank zzzzzzz 1 0;plank zzzzzzz 1 1;plank zzzzzzz 1 2;");
        for (int i = -1; i < 24; i++) {
            check.due("ahead of any", x.byteAt(i), -1);
        }
        check.due("plate(1)", x.plate(1), 23);
        check.due("the last byte", x.byteAt(22), 'z');
        check.due("a dash", x.byteAt(7), '-');
        for (int i : new int[] {MIN, -1, 23, 24, MAX}) {
            check.due("byteAt(" + i + ")", x.byteAt(i), -1);
        }
        check.due("a shorter one", x.plate(0), 5);
        check.due("its last byte", x.byteAt(4), 'a');
        check.due("nothing is left of the longer one", x.byteAt(5), -1);
        check.due("no such ROW", x.plate(2), -1);
        check.due("the latest stays", x.byteAt(4), 'a');
        x.burn(0, 0);
        x.bridge();
        check.due("as it was", x.byteAt(0), 'a');
    }

    // Promise 37: "n (1 to 60) DAYS ..: how many went by; NONE: not as told, no SIGNERS"
    private static void drawnAsTold() {
        for (int n = 1; n <= 60; n++) {
            SignedBridge x = Check.bridge("signer a 5 1;");
            check.due("drawn(" + n + ", 1)", x.drawn(n, 1), n);
            check.due("DAY", x.now(0), n);
            check.due("it can be undone at once", x.undo(), 0);
            check.due("DAY 0", x.now(0), 0);
        }
        SignedBridge x = Check.bridge("signer a 5 1;");
        for (int n : new int[] {MIN, -1, 0, 61, 62, MAX}) {
            check.due("drawn(" + n + ", 1)", x.drawn(n, 1), -1);
            check.due("no DAY went", x.now(0), 0);
        }
        SignedBridge none = Check.bridge("load p 9 1;");
        check.due("no SIGNERS", none.drawn(1, 1), -1);
        check.due("no DAY went", none.now(0), 0);
        check.due("nothing to undo", none.undo(), -1);
    }

    /** The same draws once more, by numbers that do not wrap around by themselves. */
    private static final class Draws {
        private static final long WHOLE = 1L << 32;
        private long x;

        Draws(int seed) {
            x = Math.floorMod((long) seed, WHOLE);
        }

        int of(int n) {
            x = Math.floorMod(Math.floorMod(x * 1103515245L, WHOLE) + 12345L, WHOLE);
            return (int) (x / 256 % n);
        }
    }

    // "x becomes x * 1103515245 + 12345 (an int, wrapping), the draw is (x >>> 8) % n"
    private static void drawnWrapsAround() {
        int[] seeds = {MIN, MIN + 1, -1103515245, -12345, -2, -1, 0, 1, 2, 12345, 1103515245, MAX - 1, MAX};
        for (int seed : seeds) {
            for (int n : new int[] {1, 7, 60}) {
                SignedBridge x = Check.bridge("rows 12;keeps 30;signer a 5 1;signer b 4 1;load p 9 1;load q 300 3;");
                check.due("drawn(" + n + ", " + seed + ")", x.drawn(n, seed), n);
                checkDrawn(x, n, new Draws(seed), "drawn(" + n + ", " + seed + ")");
            }
        }
    }

    private static void checkDrawn(SignedBridge x, int n, Draws draws, String call) {
        int[] earnest = {5, 4};
        int[] died = {-1, -1};
        int fallen = 0;
        for (int day = 0; day < n; day++) {
            for (int s = 0; s < 2; s++) {
                boolean lives = died[s] == -1;
                int deed = draws.of(20);
                if (deed == 0 && lives) {
                    earnest[s] /= 2;
                } else if (deed == 1 && lives) {
                    earnest[s] = Math.min(9, earnest[s] + 1);
                } else if (deed == 2 && draws.of(5) == 0 && lives) {
                    died[s] = day;
                } else if (deed == 3) {
                    draws.of(36);
                }
            }
            draws.of(4);
            fallen |= draws.of(4) == 0 ? 2 : 0;
        }
        for (int s = 0; s < 2; s++) {
            check.due(call + ": EARNEST of " + s, x.signer(s, 0), earnest[s]);
            check.due(call + ": the DAY on which " + s + " died", x.signer(s, 7), died[s]);
        }
        check.due(call + ": the heavy one", x.load(1, 2), fallen / 2);
    }

    // "SIGNER by SIGNER: a draw of 20: 0 .., 1 .., 2: a draw of 5: 0 .., 3: a draw of all places (each, if he can); a draw of 4 .."
    private static void drawnEachIfHeCan() {
        for (int rows = 1; rows <= 12; rows++) {
            for (int seed = 0; seed < 40; seed++) {
                SignedBridge x = Check.bridge("rows " + rows + ";signer a 9 1;load p 10 1;");
                x.drawn(1, seed);
                Draws draws = new Draws(seed);
                int deed = draws.of(20);
                int second = deed == 2 ? draws.of(5) : deed == 3 ? draws.of(3 * rows) : 0;
                boolean falls = draws.of(4) == 0;
                String call = "drawn(1, " + seed + ") of " + rows;
                check.due(call + ": EARNEST", x.signer(0, 0), deed == 0 ? 4 : 9);
                check.due(call + ": dead", x.signer(0, 5), deed == 2 && second == 0 ? 1 : 0);
                check.due(call + ": FALLEN or not", x.load(0, 2) == 1 || rows == 1 && deed == 3, falls || rows == 1 && deed == 3);
                if (deed == 3 && rows > 1) {
                    boolean lost = falls && second < 3;
                    check.due(call + ": the place", x.plank(second / 3, second % 3, 0), lost ? -1 : 0);
                } else if (deed != 3) {
                    check.due(call + ": no PLANK", x.now(2), 0);
                }
            }
        }
    }

    // "how many went by", at the end of all DAYS
    private static void drawnToTheEnd() {
        SignedBridge x = atDay("signer a 5 1;", 399);
        check.due("one is left of sixty", x.drawn(60, 2), 1);
        check.due("DAY 400", x.now(0), 400);
        // by seed 2 he holds a word on the first DAY
        check.due("its deeds were done", x.signer(0, 0), 6);
        check.due("none is left", x.drawn(60, 2), 0);
        check.due("nothing was done", x.signer(0, 0), 6);
        check.due("not as told all the same", x.drawn(61, 2), -1);
        check.due("undo() of the one", x.undo(), 7);
        check.due("DAY 399", x.now(0), 399);
        check.due("EARNEST 5", x.signer(0, 0), 5);
    }

    // Promise 38: "n (1 to 30) seeds ..; NONE: no such ones, no SIGNERS"
    private static void oddsAsTold() {
        SignedBridge x = Check.bridge("rows 1;signer a 5 1;plank a 0 0;load h 9 1;load p 300 1;");
        for (int n = 1; n <= 30; n++) {
            check.due("odds(0, " + n + ", 1)", x.odds(0, n, 1), n);
            check.due("odds(1, " + n + ", 1)", x.odds(1, n, 1), 0);
        }
        for (int n : new int[] {MIN, -1, 0, 31, 32, MAX}) {
            check.due("odds(0, " + n + ", 1)", x.odds(0, n, 1), -1);
        }
        check.due("no SIGNERS", Check.bridge("rows 1;load h 9 1;").odds(0, 1, 1), -1);
        check.due("the DAY stays", x.now(0), 0);
        check.due("nothing to undo", x.undo(), -1);
    }

    // "Of n seeds x, x and 1, .." (an int, wrapping)
    private static void oddsWrapAround() {
        String text = "rows 1;signer a 3 1;plank a 0 0;plank a 0 1;load p 20 1;";
        for (int first : new int[] {MAX - 29, MAX - 3, MAX, MIN, -5, -1, 0}) {
            for (int n : new int[] {1, 2, 30}) {
                int good = 0;
                for (int i = 0; i < n; i++) {
                    SignedBridge one = Check.bridge(text);
                    one.drawn(20, first + i);
                    good += one.spare(0) == -1 ? 0 : 1;
                }
                check.due("odds(0, " + n + ", " + first + ")", Check.bridge(text).odds(0, n, first), good);
            }
        }
    }

    // "behind 20 DAYS DRAWN from now on", at the end of all DAYS
    private static void oddsToTheEnd() {
        String text = "rows 1;signer a 3 1;plank a 0 0;plank a 0 1;load p 20 1;load q 40 1;";
        for (int day : new int[] {379, 380, 381, 399, 400}) {
            SignedBridge x = atDay(text, day);
            int good = 0;
            for (int seed = 0; seed < 30; seed++) {
                SignedBridge one = atDay(text, day);
                check.due("as many as are left", one.drawn(20, seed), Math.min(20, 400 - day));
                good += one.spare(0) == -1 ? 0 : 1;
            }
            check.due("odds on DAY " + day, x.odds(0, 30, 0), good);
            check.due("a heavy one on DAY " + day, x.odds(1, 30, 0) <= good, true);
        }
        check.due("on DAY 400 as it is now", atDay(text, 400).odds(0, 30, 0), 30);
    }

    // what is asked changes nothing of what is so
    private static void askingChangesNothing() {
        SignedBridge x = Check.bridge("rows 2;keeps 1;signer a 5 1;signer b 4 2;heir a b;lovers a b;plank a 0 0;plank b 0 1;"
                + "plank a 1 1;load p 40 1;load q 60 2;load h 9 1;");
        x.die(0);
        x.cross(0);
        String before = Seen.state(x);
        for (int l = 0; l < 3; l++) {
            x.spare(l);
            x.path(l, 1);
            x.asks(l);
            x.cut(l);
            x.law(l, 60);
            x.lasts(l);
            x.toll(0, l);
            x.odds(l, 30, 7);
        }
        x.limit(2);
        x.keystone();
        x.able();
        x.order();
        x.plate(1);
        forgers(x, 0, 1, 1, 0);
        check.dueText("all is as it was", Seen.state(x), before);
        check.due("two can be undone", x.undo(), 1);
    }
}
