/**
 * The edges of PLANKS, LOADS, acts and DAYS: "Terms" behind "==== 2." and promises 6 to 17, sentence by sentence.
 * A comment over a test gives the document's words that it holds the class to.
 */
public final class EdgeActsTest {
    private static final Check check = new Check("EdgeActsTest");
    private static final int MIN = Integer.MIN_VALUE;
    private static final int MAX = Integer.MAX_VALUE;
    /* 3 times these wrap around to 0, 2 and 1. */
    private static final int[] WRAPPING_ROWS = {MIN, 1431655766, -1431655765};

    public static void main(String[] args) {
        noSuchSigner();
        noSuchPlace();
        noSuchLoad();
        noSuchNow();
        throwingChangesNothing();
        bitsOfTen();
        bearsByEarnest();
        bearsByLovers();
        bearsBySingeing();
        bearsNothingButIsAPlank();
        bearsNothingOfForgers();
        theDeadBear();
        standsByWeight();
        standsByWidth();
        pathsByOneMoreOrLess();
        pathsFromManyPlaces();
        jumpsByWeight();
        jumpsNotTwo();
        jumpsToAnyPlace();
        signWhyNot();
        signSixAtMost();
        signNotSinged();
        burnWhyNot();
        singedThreeTimes();
        singedInItsRow();
        breakHalf();
        holdToNine();
        dieOnce();
        crossOrFall();
        fallInTheFirstRow();
        fallWhereMostIsBorne();
        fallWithWidth();
        dayOfKeeps();
        dayOfHeirs();
        heirsHaveSix();
        inheritedAsItIs();
        daysAsTold();
        dayFourHundred();
        undoOfEach();
        undoOfNothing();
        undoEightAtMost();
        check.close();
    }

    // Promise 6: "NoSuchElementException: no such ones."
    private static void noSuchSigner() {
        SignedBridge x = Check.bridge("signer a 1 1;signer b 1 1;");
        for (int s : new int[] {MIN, -2, -1, 2, 3, 10, MAX}) {
            for (int what = 0; what < 8; what++) {
                int w = what;
                check.dueNoSuch("signer(" + s + ", " + what + ")", () -> x.signer(s, w));
            }
        }
        for (int what : new int[] {MIN, -2, -1, 8, 9, 256, MAX}) {
            check.dueNoSuch("signer(0, " + what + ")", () -> x.signer(0, what));
            check.dueNoSuch("signer(2, " + what + ")", () -> x.signer(2, what));
        }
        check.due("the last one", x.signer(1, 0), 1);
        check.due("the last what", x.signer(1, 7), -1);
        SignedBridge none = new SignedBridge();
        check.dueNoSuch("no SIGNERS", () -> none.signer(0, 0));
    }

    // Promise 7: "NoSuchElementException: no such ones."
    private static void noSuchPlace() {
        for (int rows = 1; rows <= 12; rows++) {
            SignedBridge x = Check.bridge("rows " + rows + ";");
            int last = rows;
            check.due("the last place of " + rows, x.plank(rows - 1, 2, 0), -1);
            check.dueNoSuch("row " + rows, () -> x.plank(last, 0, 0));
        }
        SignedBridge x = Check.bridge("rows 12;");
        for (int row : new int[] {MIN, -2, -1, 12, 13, MAX, 1431655766, -1431655765}) {
            check.dueNoSuch("plank(" + row + ", 0, 0)", () -> x.plank(row, 0, 0));
        }
        for (int k : new int[] {MIN, -2, -1, 3, 4, MAX}) {
            check.dueNoSuch("plank(0, " + k + ", 0)", () -> x.plank(0, k, 0));
            check.dueNoSuch("plank(11, " + k + ", 2)", () -> x.plank(11, k, 2));
        }
        for (int what : new int[] {MIN, -2, -1, 3, 4, MAX}) {
            check.dueNoSuch("plank(0, 0, " + what + ")", () -> x.plank(0, 0, what));
        }
        // "a gap: 0", and it BEARS nothing
        check.due("a gap is nobody's", x.plank(11, 2, 0), -1);
        check.due("a gap BEARS nothing", x.plank(11, 2, 1), 0);
        check.due("a gap is not SINGED", x.plank(11, 2, 2), 0);
    }

    // Promise 8: "NoSuchElementException: no such ones."
    private static void noSuchLoad() {
        SignedBridge x = Check.bridge("load p 1 1;load q 300 3;");
        for (int l : new int[] {MIN, -2, -1, 2, 3, 6, MAX}) {
            for (int what = 0; what < 4; what++) {
                int w = what;
                check.dueNoSuch("load(" + l + ", " + what + ")", () -> x.load(l, w));
            }
        }
        for (int what : new int[] {MIN, -2, -1, 4, 5, MAX}) {
            check.dueNoSuch("load(0, " + what + ")", () -> x.load(0, what));
        }
        check.due("the last one", x.load(1, 0), 300);
        check.due("its WIDE", x.load(1, 1), 3);
        SignedBridge none = new SignedBridge();
        check.dueNoSuch("no LOADS", () -> none.load(0, 0));
    }

    // Promise 9: "NONE for another what."
    private static void noSuchNow() {
        SignedBridge x = new SignedBridge();
        for (int what : new int[] {MIN, -2, -1, 7, 8, MAX}) {
            check.due("now(" + what + ")", x.now(what), -1);
        }
        check.due("now(6)", x.now(6), 0);
    }

    // "A call that throws changes nothing."
    private static void throwingChangesNothing() {
        SignedBridge x = Check.bridge("rows 1;signer a 5 1;plank a 0 0;load p 9 1;");
        x.breaks(0);
        x.cross(0);
        Tape.put(x, "dead");
        String before = Seen.all(x);
        for (int wrong : new int[] {MIN, -1, 1, 8, MAX}) {
            check.dueNoSuch("signer", () -> x.signer(wrong, wrong));
            check.dueNoSuch("plank", () -> x.plank(wrong, wrong, wrong));
            check.dueNoSuch("load", () -> x.load(wrong, wrong));
        }
        check.dueText("all is as it was", Seen.all(x), before);
        check.due("and can be undone", x.undo(), 1);
        check.due("the tape, too", x.sentence(), 1);
    }

    // Promise 6: "4 whom he loves, as bits"; promise 9: "1 who is dead, as bits", "3 who has FALLEN, as bits"
    private static void bitsOfTen() {
        SignedBridge x = Check.bridge(EdgeTextsTest.fullText());
        for (int s = 0; s < 10; s++) {
            check.due("die(" + s + ")", x.die(s), 0);
            check.due("the dead to " + s, x.now(1), (2 << s) - 1);
        }
        check.due("all ten", x.now(1), 1023);
        check.due("the last loves nobody", x.signer(9, 4), 0);
        check.due("the ninth loves the eighth", x.signer(8, 4), 128);
        SignedBridge y = Check.bridge("rows 1;load a 10 1;load b 10 1;load c 10 1;load d 10 1;load e 10 1;load f 10 1;");
        for (int l = 0; l < 6; l++) {
            check.due("cross(" + l + ")", y.cross(l), 2);
            check.due("FALLEN to " + l, y.now(3), (2 << l) - 1);
        }
        check.due("all six", y.now(3), 63);
    }

    // "A PLANK BEARS 10 for each of EARNEST of its SIGNER"
    private static void bearsByEarnest() {
        for (int earnest = 0; earnest <= 9; earnest++) {
            SignedBridge x = Check.bridge("rows 12;signer a " + earnest + " 1;plank a 11 2;");
            check.due("EARNEST " + earnest, x.plank(11, 2, 1), 10 * earnest);
            check.due("in all", x.now(6), 10 * earnest);
        }
        // all places full, EARNEST 9, eight lovers: promise 9, "6 all that PLANKS BEAR"
        SignedBridge x = Check.bridge(EdgeTextsTest.fullText());
        int all = 0;
        for (int place = 0; place < 36; place++) {
            int s = place % 10;
            boolean right = place % 3 < 2 && s < 8;
            boolean left = place % 3 > 0 && s > 0 && s < 9;
            int due = 90 + (right ? 5 : 0) + (left ? 5 : 0);
            check.due("place " + place, x.plank(place / 3, place % 3, 1), due);
            all += due;
        }
        check.due("all 36", x.now(6), all);
    }

    // "5 more for each PLANK next to it in its ROW whose SIGNER and its own one are lovers"
    private static void bearsByLovers() {
        SignedBridge x = Check.bridge("rows 2;signer a 9 1;signer b 9 1;signer c 9 1;lovers a b;plank a 0 0;plank b 0 1;"
                + "plank a 0 2;plank b 1 0;plank c 1 1;plank a 1 2;");
        check.due("one next to it", x.plank(0, 0, 1), 95);
        check.due("two next to it", x.plank(0, 1, 1), 100);
        check.due("one next to it at the end", x.plank(0, 2, 1), 95);
        check.due("not next to it", x.plank(1, 0, 1), 90);
        check.due("no lover of either", x.plank(1, 1, 1), 90);
        check.due("nor from the ROW ahead", x.plank(1, 2, 1), 90);
        // from the end of a ROW to the beginning of the next one is not next to it
        SignedBridge y = Check.bridge("rows 2;signer a 9 1;signer b 9 1;lovers a b;plank a 0 2;plank b 1 0;");
        check.due("the end of a ROW", y.plank(0, 2, 1), 90);
        check.due("the beginning of the next", y.plank(1, 0, 1), 90);
        // nobody loves himself: two of his own
        SignedBridge z = Check.bridge("rows 1;signer a 9 1;signer b 1 1;lovers a b;plank a 0 0;plank a 0 1;");
        check.due("his own is no lover's", z.plank(0, 0, 1), 90);
    }

    /** Signs the place next to a PLANK and burns it, some times. */
    private static void singe(SignedBridge x, int s, int row, int k, int times) {
        for (int i = 0; i < times; i++) {
            check.due("sign to singe", x.sign(s, row, k), 0);
            check.due("burn to singe", x.burn(row, k), 0);
        }
    }

    // "5 less for each time it was SINGED (0 at least)"
    private static void bearsBySingeing() {
        for (int earnest = 0; earnest <= 3; earnest++) {
            for (int times = 0; times <= 4; times++) {
                SignedBridge x = Check.bridge("rows 1;signer a " + earnest + " 1;signer b 0 1;plank a 0 0;");
                singe(x, 1, 0, 1, times);
                int due = Math.max(0, 10 * earnest - 5 * Math.min(3, times));
                check.due("EARNEST " + earnest + " SINGED " + times, x.plank(0, 0, 1), due);
                check.due("and in all", x.now(6), due);
            }
        }
        // two lovers next to it: 10 more; 0 at least is what it BEARS with all of this
        for (int earnest = 0; earnest <= 1; earnest++) {
            SignedBridge x = Check.bridge("rows 1;signer a " + earnest + " 1;signer b 0 1;lovers a b;plank a 0 1;");
            singe(x, 1, 0, 0, 3);
            x.sign(1, 0, 0);
            x.sign(1, 0, 2);
            check.due("SINGED thrice between two lovers", x.plank(0, 1, 1), earnest == 0 ? 0 : 5);
        }
    }

    // ".. (0 at least)": a PLANK that is SINGED to nothing is a PLANK, and takes nothing from those next to it
    private static void bearsNothingButIsAPlank() {
        SignedBridge x = Check.bridge("rows 1;signer a 0 1;signer b 3 1;plank a 0 0;load p 30 2;load q 31 2;load r 10 1;");
        singe(x, 1, 0, 1, 3);
        x.sign(1, 0, 1);
        check.due("30 on both", x.spare(0), 0);
        check.due("31 on both", x.spare(1), -1);
        check.due("limit(2)", x.limit(2), 30);
        check.due("able()", x.able(), 2);
        check.due("asks()", x.asks(0), 0);
        check.due("cut()", x.cut(0), 1);
        check.due("of which it is the first", x.cutAt(0), 0);
        check.due("toll of who bears nothing", x.toll(0, 0), 1);
        check.due("now(2)", x.now(2), 2);
        check.due("now(6)", x.now(6), 30);
        check.due("cross()", x.cross(0), 0);
        check.due("31 falls", x.cross(1), 2);
        check.due("with both", x.now(2), 0);
    }

    // "a forger's BEARS nothing"
    private static void bearsNothingOfForgers() {
        SignedBridge x = Check.bridge("rows 1;signer a 9 1 forger;signer b 9 1;lovers a b;plank b 0 0;plank a 0 1;plank b 0 2;");
        check.due("a forger's between lovers", x.plank(0, 1, 1), 0);
        check.due("a lover next to it", x.plank(0, 0, 1), 95);
        check.due("in all", x.now(6), 190);
        check.due("it is his all the same", x.plank(0, 1, 0), 0);
        x.burn(0, 0);
        check.due("SINGED as others are", x.plank(0, 1, 2), 1);
        check.due("and no less than nothing", x.plank(0, 1, 1), 0);
    }

    // "The dead bear, too, as long as they have planks."
    private static void theDeadBear() {
        SignedBridge x = Check.bridge("rows 1;keeps 0;signer a 9 1;signer b 9 1;lovers a b;plank a 0 0;plank b 0 1;");
        x.die(0);
        x.die(1);
        check.due("a dead one's with its dead lover's", x.plank(0, 0, 1), 95);
        x.days(1);
        check.due("no longer", x.now(6), 0);
    }

    // "that BEAR its WEIGHT in all at least; what they BEAR more is to SPARE"
    private static void standsByWeight() {
        SignedBridge x = Check.bridge("rows 1;signer a 3 1;plank a 0 1;load less 29 1;load like 30 1;load more 31 1;");
        check.due("1 more than its WEIGHT", x.spare(0), 1);
        check.due("its WEIGHT", x.spare(1), 0);
        check.due("1 less than its WEIGHT", x.spare(2), -1);
        SignedBridge y = Check.bridge("rows 1;signer a 0 1;plank a 0 0;plank a 0 1;plank a 0 2;load p 1 1;load q 1 3;load r 10 3;");
        check.due("nothing is borne: it can but JUMP", y.path(0, 0), 3);
        check.due("a wide one, too", y.path(1, 0), 3);
        check.due("or not", y.path(2, 0), -1);
        // the most that three BEAR is 290
        String most = "rows 1;signer a 9 1;signer b 9 1;lovers a b;plank a 0 0;plank b 0 1;plank a 0 2;";
        SignedBridge z = Check.bridge(most + "load p 290 3;load q 291 3;load r 300 3;load s 195 2;load t 196 2;");
        check.due("290 on three", z.spare(0), 0);
        check.due("291 on three", z.spare(1), -1);
        check.due("300 on three", z.spare(2), -1);
        check.due("195 on two", z.spare(3), 0);
        check.due("196 on two", z.spare(4), -1);
    }

    // "if there are PLANKS at K and the places behind it, as many as it is WIDE"
    private static void standsByWidth() {
        // by the set of places with PLANKS: the K at which a LOAD of each width STANDS first, NONE without one
        int[][] first = {{-1, 0, 1, 0, 2, 0, 1, 0}, {-1, -1, -1, 0, -1, -1, 1, 0}, {-1, -1, -1, -1, -1, -1, -1, 0}};
        for (int set = 0; set < 8; set++) {
            StringBuilder text = new StringBuilder("rows 1;signer a 9 1;load p 10 1;load q 10 2;load r 10 3;");
            for (int k = 0; k < 3; k++) {
                if ((set >> k & 1) != 0) {
                    text.append("plank a 0 ").append(k).append(';');
                }
            }
            SignedBridge x = Check.bridge(text.toString());
            for (int l = 0; l < 3; l++) {
                check.due("WIDE " + (l + 1) + " on " + set, x.path(l, 0), first[l][set]);
                check.due("limit(" + (l + 1) + ") on " + set, x.limit(l + 1), first[l][set] < 0 ? 0 : 90 * (l + 1));
            }
        }
        // the places behind it are of its ROW: not those of the next one
        SignedBridge x = Check.bridge("rows 2;signer a 9 1;plank a 0 2;plank a 1 0;plank a 1 1;load p 10 2;");
        check.due("not over the end of a ROW", x.spare(0), -1);
    }

    // "from ROW to ROW 1 more or less at most"
    private static void pathsByOneMoreOrLess() {
        for (int from = 0; from < 3; from++) {
            for (int to = 0; to < 3; to++) {
                SignedBridge x = Check.bridge("rows 12;signer a 9 1;signer b 9 1;plank a 10 " + from + ";plank a 11 " + to
                        + ";load p 10 1;");
                for (int row = 0; row < 10; row++) {
                    x.sign(row < 4 ? 0 : 1, row, from);
                }
                boolean near = Math.abs(from - to) <= 1;
                check.due("from " + from + " to " + to, x.spare(0), near ? 80 : -1);
                check.due("K in ROW 11", x.path(0, 11), near ? to : -1);
                check.due("K in ROW 0", x.path(0, 0), near ? from : -1);
            }
        }
        // K 0 to K 2 takes three ROWS
        SignedBridge y = Check.bridge("rows 3;signer a 9 1;plank a 0 0;plank a 1 1;plank a 2 2;load p 10 1;load q 10 2;");
        check.due("step by step", y.spare(0), 80);
        // a wide one at K 0 and K 1 is near, too
        SignedBridge z = Check.bridge("rows 2;signer a 9 1;plank a 0 0;plank a 0 1;plank a 1 1;plank a 1 2;load q 10 2;");
        check.due("a wide one", z.spare(0), 170);
    }

    private static String planks(char signer, int row, int set) {
        StringBuilder out = new StringBuilder();
        for (int k = 0; k < 3; k++) {
            if ((set >> k & 1) != 0) {
                out.append("plank ").append(signer).append(' ').append(row).append(' ').append(k).append(';');
            }
        }
        return out.toString();
    }

    // the same from each set of places at which it can be in a ROW to each place of the next one
    private static void pathsFromManyPlaces() {
        for (int set = 0; set < 8; set++) {
            for (int to = 0; to < 3; to++) {
                String text = planks('a', 0, set) + planks('b', 1, 1 << to);
                boolean near = (set & (to == 0 ? 3 : to == 1 ? 7 : 6)) != 0;
                SignedBridge x = Check.bridge("rows 2;signer a 9 1;signer b 9 1;" + text + "load p 10 1;");
                check.due("able() from " + set + " to " + to, x.able(), near ? 1 : 0);
                check.due("lasts() from " + set + " to " + to, x.lasts(0), near ? -1 : 0);
                check.due("order() from " + set + " to " + to, x.order(), near ? 1 : 0);
                check.due("cut() from " + set + " to " + to, x.cut(0) > 0, near);
                check.due("cross() from " + set + " to " + to, x.cross(0), near ? 0 : 2);
                // a light one may JUMP over ROW 0, must STAND in ROW 1 and JUMPS over ROW 2
                SignedBridge y = Check.bridge("rows 3;signer a 9 1;signer b 9 1;" + text + "load p 9 1;");
                check.due("light able() from " + set + " to " + to, y.able(), 1);
                check.due("light cross() from " + set + " to " + to, y.cross(0), 0);
                y.burn(1, to);
                check.due("it can't JUMP over two", y.able(), 0);
            }
        }
    }

    // "a LOAD of WEIGHT 9 at most may JUMP over ROWS (..; to SPARE there: 999)"
    private static void jumpsByWeight() {
        for (int weight = 1; weight <= 12; weight++) {
            SignedBridge x = Check.bridge("rows 1;load p " + weight + " 3;");
            check.due("JUMP of WEIGHT " + weight, x.path(0, 0), weight <= 9 ? 3 : -1);
            check.due("to SPARE of WEIGHT " + weight, x.spare(0), weight <= 9 ? 999 : -1);
            check.due("cross() of WEIGHT " + weight, x.cross(0), weight <= 9 ? 0 : 2);
        }
    }

    // "(not two behind one another; ..)"
    private static void jumpsNotTwo() {
        for (int rows = 1; rows <= 12; rows++) {
            SignedBridge none = Check.bridge("rows " + rows + ";load p 9 1;");
            check.due("no PLANKS in " + rows, none.able(), rows == 1 ? 1 : 0);
            // a PLANK in every second ROW, from ROW 0 on and from ROW 1 on
            for (int first = 0; first < 2; first++) {
                StringBuilder text = new StringBuilder("rows " + rows + ";signer a 9 1;load p 9 1;load q 10 1;");
                for (int row = first; row < rows; row += 2) {
                    text.append("plank a ").append(row).append(' ').append(row % 3).append(';');
                }
                SignedBridge x = Check.bridge(text.toString());
                check.due("every second of " + rows, x.spare(0), rows == 1 ? 999 : 81);
                check.due("JUMP or not", x.path(0, 0), rows == 1 || first == 1 ? 3 : 0);
                check.due("10 JUMPS not", x.spare(1), rows == 1 && first == 0 ? 80 : -1);
            }
        }
        SignedBridge apart = Check.bridge("rows 4;signer a 9 1;plank a 0 0;plank a 3 0;load p 9 1;");
        check.due("two ROWS without PLANKS in the midst", apart.spare(0), -1);
        SignedBridge end = Check.bridge("rows 3;signer a 9 1;plank a 0 0;load p 9 1;");
        check.due("two at the end", end.spare(0), -1);
        SignedBridge begin = Check.bridge("rows 3;signer a 9 1;plank a 2 0;load p 9 1;");
        check.due("two at the beginning", begin.spare(0), -1);
    }

    // "(..; behind that at any K; ..)"
    private static void jumpsToAnyPlace() {
        for (int from = 0; from < 3; from++) {
            for (int to = 0; to < 3; to++) {
                SignedBridge x = Check.bridge("rows 3;signer a 9 1;plank a 0 " + from + ";plank a 2 " + to + ";load p 9 1;");
                check.due("from " + from, x.path(0, 0), from);
                check.due("a JUMP", x.path(0, 1), 3);
                check.due("to " + to, x.path(0, 2), to);
            }
        }
    }

    // "To SIGN a place: why not, the least: 1 he is dead; 2 there is a PLANK; 3 he has 6"; promise 10: "NONE: no such ones"
    private static void signWhyNot() {
        String text = "rows 3;signer a 1 1;signer b 1 1;plank a 0 0;plank a 0 1;plank a 0 2;plank a 1 0;plank a 1 1;plank a 1 2;";
        SignedBridge x = Check.bridge(text);
        check.due("he has 6", x.sign(0, 2, 0), 3);
        check.due("2 is less than 3", x.sign(0, 0, 0), 2);
        check.due("a PLANK of another", x.sign(1, 0, 0), 2);
        x.die(0);
        check.due("1 is less than 3", x.sign(0, 2, 0), 1);
        check.due("1 is less than 2 and 3", x.sign(0, 0, 0), 1);
        x.die(1);
        check.due("1 is less than 2", x.sign(1, 0, 0), 1);
        check.due("1 alone", x.sign(1, 2, 2), 1);
        for (int wrong : new int[] {MIN, -1, 3, 4, MAX}) {
            check.due("no such SIGNER " + wrong, x.sign(wrong == 3 ? 2 : wrong, 2, 0), -1);
            check.due("no such ROW " + wrong, x.sign(0, wrong, 0), -1);
            check.due("no such K " + wrong, x.sign(0, 2, wrong), -1);
        }
        for (int row : WRAPPING_ROWS) {
            check.due("a ROW that wraps around " + row, x.sign(0, row, 0), -1);
        }
        check.due("no SIGNERS", new SignedBridge().sign(0, 0, 0), -1);
    }

    // "3 he has 6", "(..; a SIGNER has 6 at most)"
    private static void signSixAtMost() {
        SignedBridge x = Check.bridge("rows 12;signer a 1 1;");
        for (int i = 0; i < 6; i++) {
            check.due("he has", x.signer(0, 6), i);
            check.due("one more", x.sign(0, 11 - i, 2), 0);
            check.due("it is a PLANK of his", x.plank(11 - i, 2, 0), 0);
        }
        check.due("he has 6", x.signer(0, 6), 6);
        check.due("a seventh", x.sign(0, 0, 0), 3);
        check.due("is none", x.now(2), 6);
        x.burn(11, 2);
        check.due("he has 5 behind a burning", x.signer(0, 6), 5);
        check.due("and may again", x.sign(0, 0, 0), 0);
        check.due("he has 6 again", x.signer(0, 6), 6);
        check.due("and no more", x.sign(0, 0, 1), 3);
    }

    // "it is a PLANK of his, not SINGED"
    private static void signNotSinged() {
        SignedBridge x = Check.bridge("rows 1;signer a 2 1;signer b 2 1;plank a 0 0;");
        singe(x, 1, 0, 1, 3);
        check.due("SINGED thrice", x.plank(0, 0, 2), 3);
        x.burn(0, 0);
        check.due("the gap is not SINGED", x.plank(0, 0, 2), 0);
        x.sign(1, 0, 0);
        check.due("nor what is signed there", x.plank(0, 0, 2), 0);
        check.due("it BEARS all", x.plank(0, 0, 1), 20);
        // where a LOAD fell, too
        SignedBridge y = Check.bridge("rows 1;signer a 2 1;signer b 2 1;plank a 0 0;load p 300 1;");
        singe(y, 1, 0, 1, 2);
        check.due("it falls", y.cross(0), 2);
        y.sign(0, 0, 0);
        check.due("not SINGED where it fell", y.plank(0, 0, 2), 0);
        // and where the dead had it
        SignedBridge z = Check.bridge("rows 1;keeps 0;signer a 2 1;signer b 2 1;plank a 0 0;");
        singe(z, 1, 0, 1, 2);
        z.die(0);
        z.days(1);
        z.sign(1, 0, 0);
        check.due("not SINGED behind the dead", z.plank(0, 0, 2), 0);
    }

    // "To BURN a place: 1 it is a gap"; promise 11: "NONE: no such one"
    private static void burnWhyNot() {
        SignedBridge x = Check.bridge("rows 2;signer a 1 1;plank a 1 2;");
        check.due("a gap", x.burn(0, 0), 1);
        check.due("none was burnt", x.now(5), 0);
        check.due("the last place", x.burn(1, 2), 0);
        check.due("one was burnt", x.now(5), 1);
        check.due("it is a gap from then on", x.burn(1, 2), 1);
        check.due("one, still", x.now(5), 1);
        check.due("he has none", x.signer(0, 6), 0);
        for (int wrong : new int[] {MIN, -1, 3, 4, MAX}) {
            check.due("no such ROW " + wrong, x.burn(wrong == 3 ? 2 : wrong, 0), -1);
            check.due("no such K " + wrong, x.burn(0, wrong), -1);
        }
        for (int row : WRAPPING_ROWS) {
            check.due("a ROW that wraps around " + row, x.burn(row, 0), -1);
        }
        x.sign(0, 0, 1);
        x.die(0);
        check.due("a dead one's burns, too", x.burn(0, 1), 0);
        check.due("two were burnt", x.now(5), 2);
    }

    // "each PLANK next to it in its ROW is SINGED once more (3 times at most)"
    private static void singedThreeTimes() {
        SignedBridge x = Check.bridge("rows 1;signer a 9 1;signer b 0 1;plank a 0 0;plank a 0 2;");
        for (int times = 1; times <= 5; times++) {
            singe(x, 1, 0, 1, 1);
            check.due("the one ahead, " + times, x.plank(0, 0, 2), Math.min(3, times));
            check.due("the one behind, " + times, x.plank(0, 2, 2), Math.min(3, times));
            check.due("what it BEARS, " + times, x.plank(0, 0, 1), 90 - 5 * Math.min(3, times));
            check.due("burnt so far", x.now(5), times);
        }
    }

    // ".. next to it in its ROW"
    private static void singedInItsRow() {
        String all = "rows 3;signer a 9 1;signer b 9 1;plank a 0 0;plank a 0 1;plank a 0 2;plank b 1 0;plank b 1 1;plank b 1 2;"
                + "plank a 2 0;plank a 2 1;plank a 2 2;";
        for (int k = 0; k < 3; k++) {
            SignedBridge x = Check.bridge(all);
            check.due("burn(1, " + k + ")", x.burn(1, k), 0);
            for (int place = 0; place < 9; place++) {
                boolean next = place / 3 == 1 && Math.abs(place % 3 - k) == 1;
                check.due("place " + place + " by K " + k, x.plank(place / 3, place % 3, 2), next ? 1 : 0);
            }
        }
        // a gap next to it is not SINGED, and what is signed there later is not, either
        SignedBridge y = Check.bridge("rows 1;signer a 9 1;plank a 0 1;");
        y.burn(0, 1);
        check.due("a gap", y.plank(0, 0, 2), 0);
        y.sign(0, 0, 0);
        check.due("and a PLANK there", y.plank(0, 0, 2), 0);
    }

    // "To BREAK a word: 1 he is dead: EARNEST is half of it (cut)"; promise 12: "NONE: no such one"
    private static void breakHalf() {
        for (int earnest = 0; earnest <= 9; earnest++) {
            SignedBridge x = Check.bridge("signer a " + earnest + " 1;");
            check.due("breaks(0) of " + earnest, x.breaks(0), 0);
            check.due("half of " + earnest, x.signer(0, 0), earnest / 2);
        }
        SignedBridge x = Check.bridge("signer a 9 1;signer b 8 1;");
        x.die(0);
        check.due("he is dead", x.breaks(0), 1);
        check.due("EARNEST stays", x.signer(0, 0), 9);
        for (int s : new int[] {MIN, -1, 2, 10, MAX}) {
            check.due("breaks(" + s + ")", x.breaks(s), -1);
        }
        check.due("the last one", x.breaks(1), 0);
        check.due("4", x.signer(1, 0), 4);
        check.due("no SIGNERS", new SignedBridge().breaks(0), -1);
    }

    // "To HOLD one: 1 he is dead; 2 EARNEST is 9: it is 1 more"; promise 13: "NONE: no such one"
    private static void holdToNine() {
        SignedBridge x = Check.bridge("signer a 0 1;signer b 9 1;");
        for (int earnest = 1; earnest <= 9; earnest++) {
            check.due("holds(0)", x.holds(0), 0);
            check.due("1 more", x.signer(0, 0), earnest);
        }
        check.due("EARNEST is 9", x.holds(0), 2);
        check.due("it stays 9", x.signer(0, 0), 9);
        x.die(1);
        check.due("1 is less than 2", x.holds(1), 1);
        x.breaks(0);
        check.due("4 and 1", x.holds(0), 0);
        check.due("are 5", x.signer(0, 0), 5);
        x.die(0);
        check.due("he is dead", x.holds(0), 1);
        check.due("5, still", x.signer(0, 0), 5);
        for (int s : new int[] {MIN, -1, 2, 10, MAX}) {
            check.due("holds(" + s + ")", x.holds(s), -1);
        }
        check.due("no SIGNERS", new SignedBridge().holds(0), -1);
    }

    // "To DIE: 1 he is dead"; promise 14: "NONE: no such one"; promise 6: "7 the DAY on which he died (NONE)"
    private static void dieOnce() {
        SignedBridge x = Check.bridge("signer a 1 1;signer b 1 1;");
        check.due("on DAY 0", x.die(0), 0);
        check.due("DAY 0", x.signer(0, 7), 0);
        x.days(60);
        check.due("he is dead", x.die(0), 1);
        check.due("DAY 0, still", x.signer(0, 7), 0);
        check.due("the other lives", x.signer(1, 5), 0);
        check.due("and died on no DAY", x.signer(1, 7), -1);
        for (int i = 0; i < 6; i++) {
            x.days(60);
        }
        check.due("on DAY 400", x.die(1), 0);
        check.due("DAY 400", x.signer(1, 7), 400);
        for (int s : new int[] {MIN, -1, 2, 10, MAX}) {
            check.due("die(" + s + ")", x.die(s), -1);
        }
        check.due("no SIGNERS", new SignedBridge().die(0), -1);
    }

    // "To CROSS: 1 it has FALLEN; else it crosses, if there is a PATH (0); if not: 2"; promise 15: "NONE: no such one"
    private static void crossOrFall() {
        SignedBridge x = Check.bridge("rows 1;signer a 3 1;plank a 0 0;load p 30 1;load q 31 1;");
        for (int times = 1; times <= 3; times++) {
            check.due("there is a PATH", x.cross(0), 0);
            check.due("how often it crossed", x.load(0, 3), times);
            check.due("how often all crossed", x.now(4), times);
        }
        check.due("1 too much", x.cross(1), 2);
        check.due("it has FALLEN", x.load(1, 2), 1);
        check.due("it crossed never", x.load(1, 3), 0);
        check.due("1 from then on", x.cross(1), 1);
        x.sign(0, 0, 0);
        x.holds(0);
        check.due("even if there is a PATH again", x.cross(1), 1);
        check.due("there is one", x.spare(1), 9);
        for (int l : new int[] {MIN, -1, 2, 6, MAX}) {
            check.due("cross(" + l + ")", x.cross(l), -1);
        }
        check.due("no LOADS", new SignedBridge().cross(0), -1);
    }

    // "it FALLS in the first ROW behind which there is no PATH for it from ROW 0 on"
    private static void fallInTheFirstRow() {
        for (int lost = 0; lost < 12; lost++) {
            StringBuilder text = new StringBuilder("rows 12;signer a 4 1;signer b 4 1;signer c 3 1;load p 40 1;");
            for (int row = 0; row < 12; row++) {
                text.append("plank ").append(row == lost ? 'c' : row < 6 ? 'a' : 'b').append(' ').append(row).append(" 1;");
            }
            SignedBridge x = Check.bridge(text.toString());
            check.due("it falls", x.cross(0), 2);
            for (int row = 0; row < 12; row++) {
                check.due("ROW " + row + " by " + lost, x.plank(row, 1, 0) == -1, row == lost);
            }
        }
        // from K 0 to K 2: it STANDS in both, and falls in the second one
        SignedBridge y = Check.bridge("rows 3;signer a 4 1;plank a 0 0;plank a 1 2;plank a 2 2;load p 40 1;");
        check.due("it can't step so far", y.cross(0), 2);
        check.dueText("ROW 0 stays", Check.plate(y, 0), "a-gap-gap");
        check.dueText("ROW 1 is where it fell", Check.plate(y, 1), "gap-gap-gap");
        check.dueText("ROW 2 stays", Check.plate(y, 2), "gap-gap-a");
        // a way that is lost later counts as long as another one goes on
        SignedBridge z = Check.bridge("rows 3;signer a 4 1;signer b 1 1;plank a 0 0;plank a 0 2;plank a 1 0;plank a 1 2;"
                + "plank b 2 1;load p 40 1;");
        check.due("by no way", z.cross(0), 2);
        check.dueText("in the last ROW", Check.plate(z, 2), "gap-gap-gap");
        check.due("the others stay", z.now(2), 4);
        // a light one JUMPS over ROW 0, and falls in ROW 1
        SignedBridge q = Check.bridge("rows 3;signer a 0 1;plank a 0 0;plank a 1 0;plank a 2 0;load p 9 1;");
        check.due("a light one", q.cross(0), 2);
        check.dueText("ROW 0 stays", Check.plate(q, 0), "a-gap-gap");
        check.dueText("ROW 1", Check.plate(q, 1), "gap-gap-gap");
        check.dueText("ROW 2 stays", Check.plate(q, 2), "a-gap-gap");
    }

    // "at the K (of like ones the first) at which there are PLANKS .. that BEAR most in all, these are gaps from then on"
    private static void fallWhereMostIsBorne() {
        for (int most = 0; most < 3; most++) {
            StringBuilder text = new StringBuilder("rows 1;signer a 3 1;signer b 4 1;load p 50 1;");
            for (int k = 0; k < 3; k++) {
                text.append("plank ").append(k == most ? 'b' : 'a').append(" 0 ").append(k).append(';');
            }
            SignedBridge x = Check.bridge(text.toString());
            check.due("it falls", x.cross(0), 2);
            for (int k = 0; k < 3; k++) {
                check.due("K " + k, x.plank(0, k, 0), k == most ? -1 : 0);
                check.due("none is SINGED by it", x.plank(0, k, 2), 0);
            }
            check.due("he has one less", x.signer(1, 6), 0);
            check.due("none was burnt", x.now(5), 0);
        }
        SignedBridge like = Check.bridge("rows 1;signer a 3 1;plank a 0 0;plank a 0 1;plank a 0 2;load p 50 1;load q 50 2;");
        check.due("of like ones", like.cross(0), 2);
        check.dueText("the first", Check.plate(like, 0), "gap-a-a");
        // PLANKS that BEAR nothing are PLANKS
        SignedBridge none = Check.bridge("rows 1;signer a 0 1;plank a 0 1;plank a 0 2;load p 50 1;");
        check.due("nothing is borne", none.cross(0), 2);
        check.dueText("the first of them", Check.plate(none, 0), "gap-gap-a");
    }

    // ".. PLANKS as many as it is WIDE ..  (no such K: none is)"
    private static void fallWithWidth() {
        // by the set of PLANKS of the ROW, which all BEAR alike: what is left by a LOAD of each width
        int[][] left = {{0, 0, 0, 2, 0, 4, 4, 6}, {0, 1, 2, 0, 4, 5, 0, 4}, {0, 1, 2, 3, 4, 5, 6, 0}};
        for (int wide = 1; wide <= 3; wide++) {
            for (int set = 0; set < 8; set++) {
                StringBuilder text = new StringBuilder("rows 1;signer a 3 1;load p 300 " + wide + ";");
                for (int k = 0; k < 3; k++) {
                    if ((set >> k & 1) != 0) {
                        text.append("plank a 0 ").append(k).append(';');
                    }
                }
                SignedBridge x = Check.bridge(text.toString());
                check.due("it falls", x.cross(0), 2);
                int rest = 0;
                for (int k = 0; k < 3; k++) {
                    rest |= x.plank(0, k, 0) == 0 ? 1 << k : 0;
                }
                check.due("WIDE " + wide + " on " + set, rest, left[wide - 1][set]);
                check.due("it has FALLEN all the same", x.now(3), 1);
            }
        }
        SignedBridge most = Check.bridge("rows 1;signer a 3 1;signer b 4 1;plank a 0 0;plank a 0 1;plank b 0 2;load p 300 2;");
        most.cross(0);
        check.dueText("most in all at K 1", Check.plate(most, 0), "a-gap-gap");
    }

    // "of each SIGNER who died as many DAYS ago as 'keeps' tells (0: on this DAY)"
    private static void dayOfKeeps() {
        for (int keeps = 0; keeps <= 30; keeps++) {
            SignedBridge x = Check.bridge("rows 1;keeps " + keeps + ";signer a 3 1;signer b 3 1;heir a b;plank a 0 0;");
            x.days(3);
            x.die(0);
            if (keeps > 0) {
                x.days(keeps);
            }
            check.due("still his by 'keeps' " + keeps, x.plank(0, 0, 0), 0);
            x.days(1);
            check.due("his heir's then", x.plank(0, 0, 0), 1);
            check.due("DAY", x.now(0), 4 + keeps);
        }
        SignedBridge five = Check.bridge("rows 1;signer a 3 1;plank a 0 0;");
        five.die(0);
        five.days(5);
        check.due("5 without 'keeps'", five.now(2), 1);
        five.days(1);
        check.due("and no longer", five.now(2), 0);
        // all DAYS at once are as one by one
        SignedBridge once = Check.bridge("rows 1;keeps 30;signer a 3 1;plank a 0 0;");
        once.die(0);
        once.days(30);
        check.due("thirty at once", once.now(2), 1);
        once.undo();
        once.days(31);
        check.due("31 at once", once.now(2), 0);
    }

    // "each PLANK of his is one of his heir .., if there is one, who lives ..; else it is a gap"
    private static void dayOfHeirs() {
        String text = "rows 1;keeps 1;signer a 3 1;signer b 3 1;signer c 3 1;heir a b;heir b c;plank a 0 0;plank c 0 2;";
        SignedBridge x = Check.bridge(text);
        x.die(0);
        x.days(2);
        check.due("his heir's", x.plank(0, 0, 0), 1);
        x.die(1);
        x.days(2);
        check.due("and his heir's", x.plank(0, 0, 0), 2);
        x.die(2);
        x.days(2);
        check.due("who has none: gaps", x.now(2), 0);
        SignedBridge dead = Check.bridge(text);
        dead.die(0);
        dead.days(1);
        dead.die(1);
        dead.days(1);
        check.due("an heir who died meanwhile: a gap, not the heir's heir's", dead.plank(0, 0, 0), -1);
        check.due("another's stays", dead.plank(0, 2, 0), 2);
        SignedBridge like = Check.bridge(text);
        like.die(1);
        like.die(0);
        like.days(2);
        check.due("both on one DAY: a gap", like.plank(0, 0, 0), -1);
        // heirs of one another
        SignedBridge round = Check.bridge("rows 1;keeps 0;signer a 3 1;signer b 3 1;heir a b;heir b a;plank a 0 0;plank b 0 1;");
        round.die(1);
        round.days(1);
        check.dueText("of one another", Check.plate(round, 0), "a-a-gap");
        round.die(0);
        round.days(1);
        check.dueText("who died ahead of him", Check.plate(round, 0), "gap-gap-gap");
        // what he got from one who died goes on by the DAY of his own death
        SignedBridge late = Check.bridge("rows 1;keeps 2;signer a 3 1;signer b 3 1;signer c 3 1;heir a b;heir b c;plank a 0 0;");
        late.die(0);
        late.days(2);
        late.days(1);
        late.die(1);
        late.days(2);
        check.due("two DAYS kept", late.plank(0, 0, 0), 1);
        late.days(1);
        check.due("then the next one's", late.plank(0, 0, 0), 2);
    }

    // "place by place .. and has fewer than 6; else it is a gap"
    private static void heirsHaveSix() {
        for (int has = 0; has <= 6; has++) {
            StringBuilder text = new StringBuilder("rows 12;keeps 0;signer a 3 1;signer b 3 1;heir a b;plank a 0 2;plank a 1 0;"
                    + "plank a 1 1;");
            for (int i = 0; i < has; i++) {
                text.append("plank b ").append(11 - i).append(" 0;");
            }
            SignedBridge x = Check.bridge(text.toString());
            x.die(0);
            x.days(1);
            int left = Math.min(3, 6 - has);
            check.due("the heir of " + has, x.signer(1, 6), Math.min(6, has + 3));
            check.due("the first place", x.plank(0, 2, 0), left > 0 ? 1 : -1);
            check.due("the second place", x.plank(1, 0, 0), left > 1 ? 1 : -1);
            check.due("the third place", x.plank(1, 1, 0), left > 2 ? 1 : -1);
            check.due("the dead has none", x.signer(0, 6), 0);
        }
        // two who die on one DAY: SIGNER by SIGNER
        SignedBridge two = Check.bridge("rows 3;keeps 0;signer h 1 1;signer a 1 1;signer b 1 1;heir a h;heir b h;plank h 2 0;"
                + "plank h 2 1;plank h 2 2;plank b 0 0;plank b 0 2;plank a 0 1;plank a 1 1;");
        two.die(2);
        two.die(1);
        two.days(1);
        check.dueText("a's are first, then b's", Check.plate(two, 0), "h-h-gap");
        check.dueText("a's second one", Check.plate(two, 1), "gap-h-gap");
    }

    // "(SINGED as it is)"
    private static void inheritedAsItIs() {
        for (int times = 0; times <= 3; times++) {
            SignedBridge x = Check.bridge("rows 1;keeps 0;signer a 9 1;signer b 4 1;signer c 0 1;heir a b;plank a 0 0;");
            singe(x, 2, 0, 1, times);
            x.die(0);
            x.days(1);
            check.due("the heir's", x.plank(0, 0, 0), 1);
            check.due("SINGED " + times, x.plank(0, 0, 2), times);
            check.due("BEARS by his EARNEST", x.plank(0, 0, 1), 40 - 5 * times);
        }
    }

    // Promise 16: "n (1 to 60) DAYS go by: how many did; NONE: not as told."
    private static void daysAsTold() {
        for (int n = 1; n <= 60; n++) {
            SignedBridge x = new SignedBridge();
            check.due("days(" + n + ")", x.days(n), n);
            check.due("DAY " + n, x.now(0), n);
        }
        SignedBridge x = new SignedBridge();
        for (int n : new int[] {MIN, MIN + 1, -60, -1, 0, 61, 62, 400, 65537, MAX}) {
            check.due("days(" + n + ")", x.days(n), -1);
            check.due("DAY 0 behind days(" + n + ")", x.now(0), 0);
        }
        check.due("nothing to undo", x.undo(), -1);
    }

    // "A DAY (0 to 399; 400: all are over)"
    private static void dayFourHundred() {
        SignedBridge x = Check.bridge("rows 1;keeps 0;signer a 3 1;signer b 3 1;plank a 0 0;plank b 0 1;load p 30 1;");
        for (int i = 0; i < 6; i++) {
            x.days(60);
        }
        x.days(39);
        check.due("DAY 399", x.now(0), 399);
        x.die(0);
        check.due("one is left of two", x.days(2), 1);
        check.due("DAY 400", x.now(0), 400);
        check.due("DAY 399 went as each does", x.plank(0, 0, 0), -1);
        check.due("all are over", x.days(1), 0);
        check.due("all are over for sixty", x.days(60), 0);
        check.due("it is not told so", x.days(61), -1);
        x.die(1);
        check.due("who dies now", x.days(1), 0);
        check.due("keeps his PLANK", x.plank(0, 1, 0), 1);
        check.due("LOADS cross all the same", x.cross(0), 0);
        check.due("DAY 400, still", x.now(0), 400);
        SignedBridge y = new SignedBridge();
        for (int i = 0; i < 6; i++) {
            y.days(60);
        }
        check.due("forty are left of sixty", y.days(60), 40);
        check.due("undo of the forty", y.undo(), 6);
        check.due("DAY 360", y.now(0), 360);
        check.due("just forty", y.days(40), 40);
        check.due("DAY 400", y.now(0), 400);
    }

    // Promise 17: "The latest of sign(), burn(), breaks(), holds(), die() that was done, cross() of 0 or 2, .."
    private static void undoOfEach() {
        String text = "rows 2;signer a 4 1;signer b 5 1;heir a b;lovers a b;keeps 0;plank a 0 0;plank b 0 1;plank a 1 0;"
                + "load p 40 1;load q 300 1;";
        for (int act = 0; act < 10; act++) {
            SignedBridge x = Check.bridge(text);
            x.holds(0);
            x.burn(0, 1);
            String before = Seen.state(x);
            int answer = doOne(x, act);
            check.due("act " + act + " is done", answer == NO_ACT, false);
            check.due("something changed by act " + act, Seen.state(x).equals(before), false);
            check.due("undo() of act " + act, x.undo(), 2);
            check.dueText("as ahead of act " + act, Seen.state(x), before);
            check.due("undo() of the burning", x.undo(), 1);
            check.due("undo() of the word", x.undo(), 0);
            check.dueText("as at the beginning", Seen.state(x), Seen.state(Check.bridge(text)));
        }
    }

    private static final int NO_ACT = -77;

    private static int doOne(SignedBridge x, int act) {
        switch (act) {
            case 0: return x.sign(1, 1, 2);
            case 1: return x.burn(0, 0);
            case 2: return x.breaks(0);
            case 3: return x.holds(1);
            case 4: return x.die(0);
            case 5: return x.cross(0);
            case 6: return x.cross(1);
            case 7: return x.days(1);
            case 8: return x.drawn(1, 5);
            case 9: {
                Tape.put(x, "day 1;a breaks;");
                return x.book(1);
            }
            default: return NO_ACT;
        }
    }

    // Promise 17: ".. that was done, .. days() above 0, drawn() above 0 ..; NONE: none is"
    private static void undoOfNothing() {
        SignedBridge x = Check.bridge("rows 1;signer a 9 1;signer b 9 1;plank a 0 0;load p 300 1;");
        check.due("none is", x.undo(), -1);
        for (int i = 0; i < 6; i++) {
            x.days(60);
        }
        x.days(40);
        x.cross(0);
        x.die(1);
        // nine were done, eight are kept: none of these is done
        check.due("sign by the dead", x.sign(1, 0, 1), 1);
        check.due("sign of nobody", x.sign(2, 0, 1), -1);
        check.due("burn a gap", x.burn(0, 1), 1);
        check.due("burn nothing", x.burn(1, 0), -1);
        check.due("breaks by the dead", x.breaks(1), 1);
        check.due("breaks by nobody", x.breaks(2), -1);
        check.due("holds at 9", x.holds(0), 2);
        check.due("holds by nobody", x.holds(-1), -1);
        check.due("die again", x.die(1), 1);
        check.due("die of nobody", x.die(2), -1);
        check.due("cross of one that has FALLEN", x.cross(0), 1);
        check.due("cross of none", x.cross(1), -1);
        check.due("days at DAY 400", x.days(60), 0);
        check.due("days not as told", x.days(0), -1);
        check.due("drawn at DAY 400", x.drawn(60, 1), 0);
        check.due("drawn not as told", x.drawn(61, 1), -1);
        Tape.put(x, "a breaks;");
        check.due("a BOOK that is judged", x.book(0), -1);
        Tape.put(x, "a breaks;?");
        check.due("a BOOK with a FAULT", x.book(1), -11);
        check.due("another lives", x.book(3), -1000);
        check.due("undo() of the death", x.undo(), 7);
        check.due("he lives", x.signer(1, 5), 0);
        check.due("undo() of the fall", x.undo(), 6);
        check.due("it has not FALLEN", x.now(3), 0);
        check.due("undo() of the last forty DAYS", x.undo(), 5);
        check.due("DAY 360", x.now(0), 360);
    }

    // Promise 17: "how many more can be (8 at most are kept)"
    private static void undoEightAtMost() {
        for (int acts = 0; acts <= 30; acts++) {
            SignedBridge x = new SignedBridge();
            for (int i = 0; i < acts; i++) {
                x.days(1);
            }
            int can = Math.min(8, acts);
            for (int i = can - 1; i >= 0; i--) {
                check.due("of " + acts + " undo()", x.undo(), i);
                check.due("DAY", x.now(0), acts - can + i);
            }
            check.due("of " + acts + " none is left", x.undo(), -1);
            check.due("and nothing is undone", x.now(0), acts - can);
        }
        // what was undone is gone, and others come in its place
        SignedBridge x = Check.bridge("signer a 5 1;");
        for (int i = 0; i < 8; i++) {
            x.days(1);
        }
        x.undo();
        x.undo();
        x.breaks(0);
        check.due("seven are kept", x.undo(), 6);
        check.due("the word is whole", x.signer(0, 0), 5);
        check.due("DAY 6", x.now(0), 6);
        x.holds(0);
        x.holds(0);
        x.holds(0);
        check.due("nine: eight are kept", x.undo(), 7);
        check.due("EARNEST 7", x.signer(0, 0), 7);
    }
}
