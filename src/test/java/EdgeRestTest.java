import java.util.Arrays;

/**
 * The edges of BOOKS that are judged, of what may be said, of images and counts: promises 39 to 45, and the 512 calls of
 * an object. A comment over a test gives the document's words that it holds the class to.
 */
public final class EdgeRestTest {
    private static final Check check = new Check("EdgeRestTest");
    private static final int MIN = Integer.MIN_VALUE;
    private static final int MAX = Integer.MAX_VALUE;
    private static final String TEXT = "rows 2;keeps 1;signer ana 5 2;signer ben 9 1;signer cyd 0 3 forger;heir ana cyd;"
            + "lovers ana ben;plank ana 0 0;plank ben 0 1;plank ana 1 1;load car 50 1;load van 300 2;";

    public static void main(String[] args) {
        livesZeroOrOne();
        judgedOrLived();
        theLineThatIsWrong();
        wrongAsForSigning();
        wrongAsForTheOthers();
        wrongByFallenLoads();
        wrongByDays();
        wrongByRows();
        toldOfNone();
        toldOfTheLatest();
        bookUndone();
        sentenceStays();
        saidEdges();
        saidByRelations();
        saidByPlanksAndRows();
        saidByLoveAndHeirs();
        saidByNotAndOr();
        imagePlaces();
        imageOfAll();
        imageAnew();
        imageOfSentences();
        restoreLeavesWhatWasTold();
        counts();
        fiveHundredTwelveCalls();
        check.close();
    }

    private static int book(SignedBridge x, String text, int lives) {
        Tape.put(x, text);
        return x.book(lives);
    }

    private static void told(SignedBridge x, int why, int lines, int day, int fallen) {
        check.due("why", x.told(0), why);
        check.due("LINES", x.told(1), lines);
        check.due("the DAY then", x.told(2), day);
        check.due("FALLEN then", x.told(3), fallen);
    }

    // Promise 39: "-1000: another lives (the tape stays)"
    private static void livesZeroOrOne() {
        SignedBridge x = Check.bridge(TEXT);
        Tape.put(x, "day 2;");
        for (int lives : new int[] {MIN, -1000, -2, -1, 2, 3, MAX}) {
            check.due("book(" + lives + ")", x.book(lives), -1000);
            check.due("the tape stays", x.count(5), 6);
            check.due("nothing is told", x.told(0), -1);
            check.due("no DAY went", x.now(0), 0);
        }
        check.due("book(0)", x.book(0), -1);
        check.due("it was that BOOK", x.told(2), 2);
        Tape.put(x, "?");
        check.due("a FAULT is not looked for", x.book(7), -1000);
        check.due("fault() stays", x.fault(), 0);
        check.due("book(1)", x.book(1), -2);
        check.due("now it is", x.fault(), 1);
    }

    // Promise 39: "it is judged, all staying as it is (lives 0), or lived as far as it is not WRONG (1)"
    private static void judgedOrLived() {
        String text = "day 1;ana breaks;ana signs 1 0;burns 0 1;car crosses;van crosses;cyd holds;ben dies;day 1;ana signs 1 0;";
        SignedBridge judged = Check.bridge(TEXT);
        String before = Seen.state(judged);
        check.due("judged", book(judged, text, 0), 9);
        check.dueText("all stays as it is", Seen.state(judged), before);
        check.due("nothing to undo", judged.undo(), -1);
        SignedBridge lived = Check.bridge(TEXT);
        check.due("lived", book(lived, text, 1), 9);
        SignedBridge byHand = Check.bridge(TEXT);
        byHand.days(1);
        byHand.breaks(0);
        byHand.sign(0, 1, 0);
        byHand.burn(0, 1);
        byHand.cross(0);
        byHand.cross(1);
        byHand.holds(2);
        byHand.die(1);
        byHand.days(1);
        check.dueText("as by hand", Seen.state(lived), Seen.state(byHand));
        for (int what = 0; what < 4; what++) {
            check.due("told(" + what + ") alike", judged.told(what), lived.told(what));
        }
        told(lived, 2, 9, 2, byHand.now(3));
    }

    // Promise 39: "the LINE that is WRONG; NONE: none"
    private static void theLineThatIsWrong() {
        for (int line = 0; line < 40; line++) {
            SignedBridge x = Check.bridge(TEXT);
            String text = "day 1;".repeat(line) + "burns 1 2;" + "day 1;".repeat(39 - line);
            check.due("LINE " + line, book(x, text, 1), line);
            told(x, 11, line, line, 0);
            check.due("as far as that", x.now(0), line);
        }
        SignedBridge x = Check.bridge(TEXT);
        check.due("none of none", book(x, "", 1), -1);
        told(x, 0, 0, 0, 0);
        check.due("none of forty", book(x, "day 1;".repeat(40), 1), -1);
        told(x, 0, 40, 40, 0);
        // the first that is WRONG, not another one
        check.due("the first", book(x, "day 1;burns 1 2;burns 1 2;ana signs 0 0;", 0), 1);
    }

    private static void wrong(String text, int line, int why) {
        for (int lives = 0; lives < 2; lives++) {
            SignedBridge x = Check.bridge(TEXT);
            check.due("book of " + text, book(x, text, lives), line);
            check.due("why of " + text, x.told(0), why);
            check.due("LINES of " + text, x.told(1), line == -1 ? (int) text.chars().filter(c -> c == ';').count() : line);
            check.due("no FAULT of " + text, x.fault(), 0);
        }
    }

    // Promise 40: "0 why it was WRONG (0: it was not; as for signing, ..)"
    private static void wrongAsForSigning() {
        wrong("ana signs 1 0;", -1, 0);
        wrong("ana dies;ana signs 1 0;", 1, 1);
        wrong("ana dies;ana signs 0 0;", 1, 1);
        wrong("ana signs 0 0;", 0, 2);
        wrong("ana signs 0 1;", 0, 2);
        SignedBridge x = Check.bridge("rows 3;signer a 1 1;");
        String six = "a signs 0 0;a signs 0 1;a signs 0 2;a signs 1 0;a signs 1 1;a signs 1 2;";
        check.due("six", book(x, six, 0), -1);
        check.due("a seventh", book(x, six + "a signs 2 0;", 0), 6);
        check.due("3", x.told(0), 3);
        check.due("a seventh where a PLANK is", book(x, six + "a signs 0 0;", 0), 6);
        check.due("2 is less", x.told(0), 2);
    }

    // ".. 10 more as for burning, 20 for breaking, 30 for holding, 40 for dying"
    private static void wrongAsForTheOthers() {
        wrong("burns 0 0;", -1, 0);
        wrong("burns 0 0;burns 0 0;", 1, 11);
        wrong("burns 0 2;", 0, 11);
        wrong("cyd breaks;", -1, 0);
        wrong("cyd dies;cyd breaks;", 1, 21);
        wrong("cyd holds;", -1, 0);
        wrong("cyd dies;cyd holds;", 1, 31);
        wrong("ben holds;", 0, 32);
        wrong("ben dies;ben holds;", 1, 31);
        wrong("ana holds;ana holds;ana holds;ana holds;ana holds;", 4, 32);
        wrong("cyd dies;cyd dies;", 1, 41);
        wrong("cyd dies;day 60;cyd dies;", 2, 41);
    }

    // ".. 51 for a LOAD that has FALLEN (one that FALLS is not WRONG)"
    private static void wrongByFallenLoads() {
        wrong("van crosses;", -1, 0);
        wrong("van crosses;van crosses;", 1, 51);
        wrong("car crosses;car crosses;car crosses;", -1, 0);
        SignedBridge x = Check.bridge(TEXT);
        check.due("one that FALLS", book(x, "van crosses;day 1;", 0), -1);
        told(x, 0, 2, 1, 2);
        check.due("it has not FALLEN now", x.now(3), 0);
        x.cross(1);
        check.due("one that has FALLEN", book(x, "day 1;van crosses;", 0), 1);
        told(x, 51, 1, 1, 2);
    }

    // ".. 61: fewer DAYS are left"
    private static void wrongByDays() {
        String most = "day 60;day 60;day 60;day 60;day 60;day 60;";
        for (int n = 38; n <= 42; n++) {
            SignedBridge x = Check.bridge(TEXT);
            check.due("360 and " + n, book(x, most + "day " + n + ";", 1), n <= 40 ? -1 : 6);
            told(x, n <= 40 ? 0 : 61, n <= 40 ? 7 : 6, n <= 40 ? 360 + n : 360, 0);
            check.due("none of them goes, if they are too many", x.now(0), n <= 40 ? 360 + n : 360);
        }
        SignedBridge x = Check.bridge(TEXT);
        check.due("400", book(x, most + "day 40;day 1;", 1), 7);
        told(x, 61, 7, 400, 0);
        check.due("on DAY 400 others are lived", book(x, "car crosses;ana breaks;", 1), -1);
        check.due("but no DAY", book(x, "day 1;", 1), 0);
        told(x, 61, 0, 400, 0);
    }

    // ".. 9, 19: there is no such ROW"
    private static void wrongByRows() {
        for (int rows = 1; rows <= 12; rows++) {
            for (int row = 0; row <= 11; row++) {
                SignedBridge x = Check.bridge("rows " + rows + ";signer a 1 1;");
                check.due("a signs " + row + " of " + rows, book(x, "a signs " + row + " 0;", 0), row < rows ? -1 : 0);
                check.due("why", x.told(0), row < rows ? 0 : 9);
                check.due("burns " + row + " of " + rows, book(x, "burns " + row + " 0;", 0), 0);
                check.due("why", x.told(0), row < rows ? 11 : 19);
            }
        }
        wrong("ana dies;ana signs 2 0;", 1, 9);
    }

    // Promise 40: "NONE: another what, or ahead of any."
    private static void toldOfNone() {
        SignedBridge x = Check.bridge(TEXT);
        for (int what : new int[] {MIN, -1, 0, 1, 2, 3, 4, MAX}) {
            check.due("ahead of any", x.told(what), -1);
        }
        book(x, "?", 0);
        check.due("behind a FAULT, ahead of any", x.told(1), -1);
        book(x, "day 1;", 0);
        for (int what : new int[] {MIN, -2, -1, 4, 5, MAX}) {
            check.due("told(" + what + ")", x.told(what), -1);
        }
    }

    // "Of the latest book() that had no FAULT (and was not -1000)"
    private static void toldOfTheLatest() {
        SignedBridge x = Check.bridge(TEXT);
        book(x, "day 3;van crosses;burns 1 2;", 0);
        told(x, 11, 2, 3, 2);
        book(x, "day 9;?", 0);
        told(x, 11, 2, 3, 2);
        x.book(2);
        told(x, 11, 2, 3, 2);
        x.days(5);
        x.undo();
        x.image(0);
        x.restore(0);
        x.bridge();
        told(x, 11, 2, 3, 2);
        x.book(0);
        told(x, 0, 0, 0, 0);
    }

    // Promise 17: ".. a BOOK that was lived is undone": all of it at once
    private static void bookUndone() {
        SignedBridge x = Check.bridge(TEXT);
        String before = Seen.state(x);
        book(x, "day 1;".repeat(39) + "van crosses;", 1);
        check.due("at once", x.undo(), 0);
        check.dueText("as it was", Seen.state(x), before);
        for (int i = 0; i < 9; i++) {
            book(x, "day 1;day 1;", 1);
        }
        check.due("eight at most", x.undo(), 7);
        check.due("two DAYS less", x.now(0), 16);
    }

    // Promise 41: "The tape is the SENTENCE now ..; -1 less the place of a FAULT: it stays"
    private static void sentenceStays() {
        SignedBridge x = Check.bridge(TEXT);
        Tape.put(x, "dead or");
        check.due("a FAULT", x.sentence(), -8);
        check.due("there is none", x.said(-1), -1);
        Tape.put(x, "not dead");
        check.due("one", x.sentence(), 2);
        String[] bad = {"", "dead or", "(((dead)", "not not not not not not not not dead", "loves zed", "on 12", "?",
            "number = 0 or (number = 1 and not (number = 2"};
        for (String text : bad) {
            Tape.put(x, text);
            check.due("a FAULT of " + text, x.sentence() < 0, true);
            check.due("it stays", x.said(-1), 3);
        }
        Tape.put(x, "number = 1");
        check.due("another one", x.sentence(), 1);
        check.due("is the SENTENCE now", x.said(0), 1);
        // one that stood open is forgotten: what is read behind it is whole
        Tape.put(x, "((((((not dead");
        check.due("broken off", x.sentence() < 0, true);
        Tape.put(x, "(((((((not dead)))))))");
        check.due("eight within and one more", x.sentence(), -1 - 11);
        Tape.put(x, "((((((not dead))))))");
        check.due("eight within", x.sentence(), 8);
        check.due("as it says", x.said(-1), 3);
        x.die(1);
        check.due("of whom it may be said now", x.said(-1), 2);
    }

    // Promise 42: "how many (k NONE), or the k-th. NONE: there is no SENTENCE, none such."
    private static void saidEdges() {
        SignedBridge none = new SignedBridge();
        for (int k : new int[] {MIN, -2, -1, 0, 1, MAX}) {
            check.due("no SENTENCE", none.said(k), -1);
        }
        Tape.put(none, "not dead");
        none.sentence();
        check.due("no SIGNERS: of none", none.said(-1), 0);
        check.due("no SIGNERS: no first", none.said(0), -1);
        SignedBridge ten = Check.bridge(EdgeTextsTest.fullText());
        Tape.put(ten, "not dead");
        ten.sentence();
        check.due("of all ten", ten.said(-1), 10);
        for (int k = 0; k < 10; k++) {
            check.due("the k-th", ten.said(k), k);
        }
        for (int k : new int[] {MIN, -2, 10, 11, 31, 32, MAX}) {
            check.due("said(" + k + ")", ten.said(k), -1);
        }
        Tape.put(ten, "number > 6");
        ten.sentence();
        check.due("three", ten.said(-1), 3);
        check.due("the first is 7", ten.said(0), 7);
        check.due("the last is 9", ten.said(2), 9);
        check.due("no fourth", ten.said(3), -1);
        Tape.put(ten, "dead");
        ten.sentence();
        check.due("of none", ten.said(-1), 0);
        check.due("no first", ten.said(0), -1);
        ten.bridge();
        check.due("a new BRIDGE has no SENTENCE", ten.said(-1), -1);
    }

    private static void said(SignedBridge x, String sentence, int bits) {
        Tape.put(x, sentence);
        check.due("sentence() of " + sentence, x.sentence() > 0, true);
        check.due("said(NONE) of " + sentence, x.said(-1), Integer.bitCount(bits));
        int k = 0;
        for (int s = 0; s < x.count(1); s++) {
            if ((bits >> s & 1) != 0) {
                check.due("said(" + k + ") of " + sentence, x.said(k), s);
                k++;
            }
        }
    }

    // "( 'earnest' | 'planks' | 'miles' | 'number' ) SIGN NUMBER (how many he has; his number)", "SIGN: < = >"
    private static void saidByRelations() {
        String text = "signer a 0 1;signer b 1 2;signer c 8 8;signer d 9 9;plank b 0 0;plank c 0 1;plank c 0 2;plank d 1 0;"
                + "plank d 1 1;plank d 1 2;plank d 2 0;plank d 2 1;plank d 2 2;";
        int[][] has = {{0, 1, 8, 9}, {0, 1, 2, 6}, {1, 2, 8, 9}, {0, 1, 2, 3}};
        String[] what = {"earnest", "planks", "miles", "number"};
        for (int w = 0; w < 4; w++) {
            for (int n : new int[] {0, 1, 2, 3, 6, 7, 8, 9, 10, 999}) {
                int less = 0;
                int like = 0;
                int more = 0;
                for (int s = 0; s < 4; s++) {
                    less |= has[w][s] < n ? 1 << s : 0;
                    like |= has[w][s] == n ? 1 << s : 0;
                    more |= has[w][s] > n ? 1 << s : 0;
                }
                SignedBridge x = Check.bridge(text);
                said(x, what[w] + " < " + n, less);
                said(x, what[w] + " = " + n, like);
                said(x, what[w] + " > " + n, more);
            }
        }
    }

    // "'on' ROW (he has a plank there; 0 to 11)"
    private static void saidByPlanksAndRows() {
        SignedBridge x = Check.bridge("rows 12;signer a 1 1;signer b 1 1;signer c 1 1;plank a 0 0;plank b 0 1;plank c 0 2;"
                + "plank c 11 2;plank b 5 1;");
        said(x, "on 0", 7);
        said(x, "on 1", 0);
        said(x, "on 5", 2);
        said(x, "on 10", 0);
        said(x, "on 11", 4);
        said(x, "on 0 and not on 11", 3);
        // a ROW that there is not: nobody has one there
        SignedBridge y = Check.bridge("rows 1;signer a 1 1;plank a 0 2;");
        said(y, "on 0", 1);
        for (int row = 1; row <= 11; row++) {
            said(y, "on " + row, 0);
            said(y, "not on " + row, 1);
        }
    }

    // "'dead' | 'forged' | 'loves' SIGNER | 'follows' SIGNER (he is the heir of that one)"
    private static void saidByLoveAndHeirs() {
        SignedBridge x = Check.bridge("signer a 1 1;signer b 1 1 forger;signer c 1 1;lovers a b;lovers b c;heir a c;heir b c;heir c a;");
        said(x, "loves a", 2);
        said(x, "loves b", 5);
        said(x, "loves c", 2);
        said(x, "follows a", 4);
        said(x, "follows b", 4);
        said(x, "follows c", 1);
        said(x, "forged", 2);
        said(x, "dead", 0);
        x.die(2);
        said(x, "dead", 4);
        said(x, "dead and follows a and loves b", 4);
        said(x, "dead and forged", 0);
    }

    // "COND: ALL { 'or' ALL }. ALL: ONE { 'and' ONE }. ONE: 'not' ONE | ( COND )"
    private static void saidByNotAndOr() {
        SignedBridge x = Check.bridge("signer a 1 1;signer b 1 1;signer c 1 1;signer d 1 1;");
        said(x, "number = 0 or number = 1 and number = 2", 1);
        said(x, "(number = 0 or number = 1) and number < 1", 1);
        said(x, "number = 3 and number = 2 or number = 1", 2);
        said(x, "not number = 0 and number < 2", 2);
        said(x, "not (number = 0 and number < 2)", 14);
        said(x, "not not not not not not not number = 0", 14);
        said(x, "(((((((number = 2)))))))", 4);
        said(x, "number = 0" + " or number = 1".repeat(9) + " or number = 2", 7);
        said(x, "number<4" + " and number<4".repeat(14), 15);
        said(x, "not(not(not(not number=1)))", 2);
        said(x, "not dead" + " or not dead".repeat(9), 15);
        said(x, "number=0 or(number=1 or(number=2 or(number=3)))", 15);
        said(x, "((number=0)or number=1)and not(number=1 and(not dead))", 1);
    }

    // promises 43 and 44: "(0, 1): true; false: no such one", "false: no such one, or nothing is kept there"
    private static void imagePlaces() {
        SignedBridge x = Check.bridge(TEXT);
        for (int k : new int[] {MIN, -2, -1, 2, 3, MAX}) {
            check.due("image(" + k + ")", x.image(k), false);
            check.due("restore(" + k + ")", x.restore(k), false);
        }
        check.due("nothing in 0", x.restore(0), false);
        check.due("nothing in 1", x.restore(1), false);
        check.due("image(1)", x.image(1), true);
        check.due("nothing in 0, still", x.restore(0), false);
        check.due("restore(1)", x.restore(1), true);
        check.due("image(0)", x.image(0), true);
        check.due("restore(0)", x.restore(0), true);
        for (int k : new int[] {MIN, -1, 2, MAX}) {
            check.due("restore(" + k + "), still", x.restore(k), false);
        }
        // a restore that is refused leaves what can be undone
        x.breaks(0);
        x.restore(2);
        check.due("it can be undone", x.undo(), 0);
        check.due("the word is whole", x.signer(0, 0), 5);
    }

    /** An object to which much has happened. */
    private static SignedBridge used() {
        SignedBridge x = Check.bridge(TEXT);
        Tape.put(x, "not dead and planks > 0");
        x.sentence();
        x.cross(0);
        x.cross(1);
        x.sign(1, 1, 2);
        x.burn(1, 1);
        x.breaks(1);
        x.die(0);
        x.days(1);
        return x;
    }

    // "BRIDGE, all that is so and the SENTENCE are kept", "They are as kept in place k (..; nothing can be undone)"
    private static void imageOfAll() {
        String kept = Seen.state(used());
        SignedBridge x = used();
        x.image(0);
        check.due("an image leaves what can be undone", x.undo(), 6);
        x.days(60);
        x.bridge();
        x.image(1);
        check.due("restore(0)", x.restore(0), true);
        check.dueText("as kept", Seen.state(x), kept);
        check.due("nothing can be undone", x.undo(), -1);
        x.days(3);
        check.due("restore(1)", x.restore(1), true);
        check.dueText("the other one", Seen.state(x), Seen.state(new SignedBridge()));
        check.due("nothing can be undone", x.undo(), -1);
        check.due("restore(0) again", x.restore(0), true);
        check.dueText("it is kept as it was", Seen.state(x), kept);
    }

    // an image in a place that has one
    private static void imageAnew() {
        SignedBridge x = used();
        x.image(0);
        x.holds(1);
        String newer = Seen.state(x);
        x.image(0);
        x.die(1);
        x.restore(0);
        check.dueText("the newer one", Seen.state(x), newer);
    }

    // ".. and the SENTENCE": with all that is in it
    private static void imageOfSentences() {
        String[] texts = {"earnest > 4", "earnest < 5", "miles = 2", "loves ana", "follows ana", "not (on 0) or number = 1"};
        SignedBridge x = Check.bridge(TEXT);
        for (String text : texts) {
            Tape.put(x, text);
            x.sentence();
            int many = x.said(-1);
            int first = x.said(0);
            x.image(0);
            Tape.put(x, "dead and dead and dead or earnest = 7");
            x.sentence();
            check.due("of none", x.said(-1), 0);
            x.restore(0);
            check.due("of as many: " + text, x.said(-1), many);
            check.due("the same: " + text, x.said(0), first);
        }
        // none is kept, too
        SignedBridge y = Check.bridge(TEXT);
        y.image(0);
        Tape.put(y, "not dead");
        y.sentence();
        y.image(1);
        y.restore(0);
        check.due("no SENTENCE", y.said(-1), -1);
        y.restore(1);
        check.due("the SENTENCE", y.said(-1), 3);
    }

    // Promise 44: "(the tape, and what other calls told last, stays; ..)"
    private static void restoreLeavesWhatWasTold() {
        SignedBridge x = Check.bridge(TEXT);
        x.image(0);
        x.burn(1, 1);
        x.asks(0);
        x.cut(0);
        x.order();
        x.plate(0);
        book(x, "day 2;burns 1 1;", 0);
        x.feed(0x00000000, 0, 0, 0, 0);
        x.end(2);
        x.forgers();
        Tape.put(x, "on 12");
        x.sentence();
        Tape.put(x, "not dead");
        String before = Seen.told(x);
        check.due("something is told", before.replaceAll("[-1 ]", "").length() > 5, true);
        check.due("restore(0)", x.restore(0), true);
        check.dueText("all of it stays", Seen.told(x), before);
        check.due("the tape can be read", x.sentence(), 2);
    }

    // Promise 45: "NONE for another what."
    private static void counts() {
        SignedBridge x = new SignedBridge();
        for (int what : new int[] {MIN, -2, -1, 6, 7, MAX}) {
            check.due("count(" + what + ")", x.count(what), -1);
        }
        SignedBridge full = Check.bridge(EdgeTextsTest.fullText());
        int[] due = {12, 10, 6, 8, 30, 0};
        for (int what = 0; what < 6; what++) {
            check.due("full count(" + what + ")", full.count(what), due[what]);
        }
        for (int i = 0; i < 47; i++) {
            full.feed(0, 0, 0, 0, 0);
        }
        check.due("a full tape", full.count(5), 940);
    }

    // "An object is used for at most 512 calls after it has been made"
    private static void fiveHundredTwelveCalls() {
        String text = EdgeTextsTest.fullText();
        SignedBridge x = new SignedBridge();
        int calls = 0;
        for (int[] f : Tape.feeds(Arrays.copyOf(Tape.bytes(text), 900))) {
            x.feed(f[0], f[1], f[2], f[3], f[4]);
            calls++;
        }
        x.end(text.length());
        check.due("the full BRIDGE", x.bridge() > 0, true);
        calls += 2;
        int odds = x.odds(0, 30, 5);
        int asks = x.asks(5);
        calls += 2;
        while (calls < 507) {
            check.due("odds, the same each time", x.odds(0, 30, 5), odds);
            x.law(5, 60);
            x.order();
            x.cut(5);
            check.due("asks, the same each time", x.asks(5), asks);
            calls += 5;
        }
        while (calls < 511) {
            x.days(1);
            calls++;
        }
        check.due("the 512th call", x.undo() >= 0, true);
        calls++;
        check.due("calls", calls, 512);
    }
}
