import java.util.Arrays;

/**
 * The edges of the tape and of the three texts: "Terms" ahead of "==== 2." and promises 1 to 5, sentence by sentence.
 * A comment over a test gives the document's words that it holds the class to.
 */
public final class EdgeTextsTest {
    private static final Check check = new Check("EdgeTextsTest");
    private static final String BASE = "rows 12;signer ana 4 1;load car 5 1;";
    private static final String[] KEYS = ("rows signer forger heir lovers plank load keeps signs breaks holds dies burns "
            + "crosses day or and not dead forged loves follows on earnest planks miles number").split(" ");
    private static final int[] FAR = {Integer.MIN_VALUE, -2147483647, -1000, -2, -1, 941, 960, 65536, Integer.MAX_VALUE};

    /** Which of the three texts is read. */
    private enum Text { BRIDGE, BOOK, SENTENCE }

    public static void main(String[] args) {
        newObject();
        feedOfTwenty();
        feedHighestFirst();
        feedBeyondTheMost();
        endOfTheTape();
        emptyThen();
        everyByteBetweenTokens();
        everyByteOfWords();
        everyByteOfNumbers();
        everyByteAsSign();
        blanksOrNot();
        numbersAreNoSigns();
        lengthsOfWords();
        lengthsOfNumbers();
        wordsAndNumbersGoOn();
        numbersOfBridges();
        numbersOfPlaces();
        numbersOfBooks();
        numbersOfSentences();
        wordsThatAreNoNames();
        namesToldOnce();
        namesOfAnotherSort();
        alikeAndAgain();
        heirsAndPlanksAtHim();
        rowsAndKeepsOnce();
        oneMoreOfASort();
        fullBridge();
        tooFewOfALine();
        endOfBooksAndSentences();
        tooManyBytes();
        tokensReadWhole();
        faultsAheadOfTheMost();
        fortyLines();
        twentyOnes();
        eightWithin();
        theFirstAlongTheText();
        ofOneTokenTheLeast();
        aFaultLeavesAll();
        aNewBridgeIsNew();
        faultOfTheLatest();
        check.close();
    }

    private static SignedBridge base() {
        return Check.bridge(BASE);
    }

    private static int read(SignedBridge x, Text text) {
        return switch (text) {
            case BRIDGE -> x.bridge();
            case BOOK -> x.book(0);
            case SENTENCE -> x.sentence();
        };
    }

    private static void good(Text kind, String text, int answer) {
        SignedBridge x = base();
        Tape.put(x, text);
        check.due(kind + " " + text, read(x, kind), answer);
        check.due("fault() of " + text, x.fault(), 0);
        check.due("the tape behind " + text, x.count(5), 0);
    }

    private static void bad(Text kind, String text, int fault, int at) {
        SignedBridge x = base();
        Tape.put(x, text);
        check.due(kind + " " + text, read(x, kind), (kind == Text.BOOK ? -2 : -1) - at);
        check.due("fault() of " + text, x.fault(), fault);
        check.due("the tape behind " + text, x.count(5), 0);
    }

    private static int lines(String text) {
        return (int) text.chars().filter(c -> c == ';').count();
    }

    private static void goodBridge(String text) {
        good(Text.BRIDGE, text, lines(text));
    }

    private static void badBridge(String text, int fault, int at) {
        bad(Text.BRIDGE, text, fault, at);
    }

    private static String blanks(int n) {
        return " ".repeat(n);
    }

    /** Blanks, so that the text begins at a place. */
    private static String at(int place, String text) {
        return blanks(place) + text;
    }

    // Promise 1: "An empty BRIDGE; an empty tape."
    private static void newObject() {
        SignedBridge x = new SignedBridge();
        check.due("an empty tape", x.count(5), 0);
        check.due("4 ROWS without 'rows'", x.count(0), 4);
        check.due("no SIGNERS", x.count(1), 0);
        check.due("no LOADS", x.count(2), 0);
        check.due("no lovers", x.count(3), 0);
        check.due("5 without 'keeps'", x.count(4), 5);
        for (int what = 0; what < 7; what++) {
            check.due("new now(" + what + ")", x.now(what), 0);
        }
        for (int place = 0; place < 12; place++) {
            check.due("a gap", x.plank(place / 3, place % 3, 0), -1);
        }
        check.due("no SENTENCE", x.said(-1), -1);
        check.due("no FAULT ahead of any text", x.fault(), 0);
        check.due("nothing to undo", x.undo(), -1);
        check.due("nothing is kept in 0", x.restore(0), false);
        check.due("nothing is kept in 1", x.restore(1), false);
        SignedBridge y = new SignedBridge();
        check.due("an empty text is an empty BRIDGE", y.bridge(), 0);
        check.dueText("as a new object has", Seen.all(y), Seen.all(new SignedBridge()));
    }

    // Promise 2: "Twenty bytes come behind the tape ..: how many it has"
    private static void feedOfTwenty() {
        SignedBridge x = new SignedBridge();
        for (int i = 1; i <= 47; i++) {
            check.due("feed " + i, x.feed(0, 0, 0, 0, 0), 20 * i);
            check.due("count(5) behind feed " + i, x.count(5), 20 * i);
        }
        SignedBridge y = new SignedBridge();
        y.feed(0, 0, 0, 0, 0);
        y.end(7);
        check.due("behind what is left", y.feed(0, 0, 0, 0, 0), 27);
    }

    // Promise 2: ".. of each number the highest first"
    private static void feedHighestFirst() {
        SignedBridge x = new SignedBridge();
        // r o w s, blank 1 2 ;, k e e p, s blank 3 ;, four blanks
        check.due("four a number", x.feed(0x726f7773, 0x2031323b, 0x6b656570, 0x7320333b, 0x20202020), 20);
        check.due("two LINES", x.bridge(), 2);
        check.due("12 ROWS", x.count(0), 12);
        check.due("'keeps' 3", x.count(4), 3);
        // the highest bit of a byte stays in its byte: 255 is no LOAD, and no byte is below 0
        SignedBridge y = Check.bridge("rows 1;load p 9 1;");
        y.feed(0xff010000, 0, 0, 0, 0);
        y.end(2);
        check.due("byte 255 is no LOAD", y.forgers(), -1);
        y.feed(0x00ff0000, 0, 0, 0, 0);
        y.end(2);
        check.due("byte 255 is not 1", y.forgers(), -1);
        y.feed(0x0001ffff, -1, -1, -1, -1);
        y.end(2);
        check.due("the bytes behind are cut off", y.forgers(), 1);
    }

    // Promise 2: "NONE, and none come, if it would have more than 940"
    private static void feedBeyondTheMost() {
        SignedBridge x = new SignedBridge();
        Tape.put(x, at(919, "x"));
        check.due("920 and 20 are 940", x.feed(0, 0, 0, 0, 0), 940);
        check.due("no more come", x.feed(0, 0, 0, 0, 0), -1);
        check.due("940 are there", x.count(5), 940);
        for (int has = 921; has < 940; has++) {
            SignedBridge y = new SignedBridge();
            Tape.put(y, "rows 7;" + blanks(has - 7));
            check.due(has + " and 20 are too many", y.feed(-1, -1, -1, -1, -1), -1);
            check.due(has + " stay", y.count(5), has);
            y.end(7);
            check.due("as they were", y.bridge(), 1);
        }
    }

    // Promise 3: "The tape has its first n bytes alone: true; false, if it has not so many, or n is below 0."
    private static void endOfTheTape() {
        SignedBridge x = new SignedBridge();
        check.due("end(0) of an empty tape", x.end(0), true);
        check.due("end(1) of an empty tape", x.end(1), false);
        Tape.put(x, "rows 7;keeps 9;");
        for (int n : FAR) {
            check.due("end(" + n + ")", x.end(n), false);
            check.due("all stay behind end(" + n + ")", x.count(5), 15);
        }
        check.due("end(16)", x.end(16), false);
        check.due("end(15)", x.end(15), true);
        check.due("15 stay", x.count(5), 15);
        check.due("end(7)", x.end(7), true);
        check.due("7 are left", x.count(5), 7);
        check.due("end(8): the others are gone", x.end(8), false);
        check.due("the first seven", x.bridge(), 1);
        check.due("are told", x.count(0), 7);
        check.due("the others are not", x.count(4), 5);
    }

    // Promise 4: "The tape (empty then, here and below)"; promise 39: "-1000: another lives (the tape stays)"
    private static void emptyThen() {
        for (Text kind : Text.values()) {
            SignedBridge x = base();
            Tape.put(x, "???");
            read(x, kind);
            check.due("empty behind a FAULT of a " + kind, x.count(5), 0);
        }
        SignedBridge x = base();
        Tape.put(x, "???");
        check.due("not as told", x.forgers(), -1);
        check.due("empty behind forgers() of NONE", x.count(5), 0);
        Tape.put(x, "???");
        check.due("another lives", x.book(2), -1000);
        check.due("the tape stays", x.count(5), 3);
    }

    // "with blanks (32, 10) between them or not": of all bytes these two are blanks, and no other one may come
    private static void everyByteBetweenTokens() {
        for (int b = 0; b < 256; b++) {
            String text = "rows 3;" + (char) b;
            if (b == 32 || b == 10) {
                good(Text.BRIDGE, text, 1);
            } else {
                badBridge(text, 1, 7);
            }
        }
    }

    // "WORDS: small letters, 1 to 7"
    private static void everyByteOfWords() {
        for (int b = 0; b < 256; b++) {
            char c = (char) b;
            boolean letter = c >= 'a' && c <= 'z';
            boolean digit = c >= '0' && c <= '9';
            boolean blank = b == 32 || b == 10;
            if (letter) {
                goodBridge("signer " + c + " 1 1;");
            } else {
                badBridge("signer " + c + " 1 1;", 1, blank ? 9 : 7);
            }
            if (letter || blank) {
                goodBridge("signer x" + c + " 1 1;");
            } else {
                badBridge("signer x" + c + " 1 1;", 1, digit ? 7 : 8);
            }
        }
    }

    // "NUMBERS: 1 to 3 digits"
    private static void everyByteOfNumbers() {
        for (int b = 0; b < 256; b++) {
            char c = (char) b;
            boolean letter = c >= 'a' && c <= 'z';
            boolean digit = c >= '0' && c <= '9';
            boolean blank = b == 32 || b == 10;
            if (digit) {
                goodBridge("keeps " + c + ";");
                SignedBridge x = Check.bridge("keeps 2" + c + ";");
                check.due("keeps 2" + c, x.count(4), 20 + b - '0');
            } else {
                badBridge("keeps " + c + ";", 1, blank ? 7 : 6);
            }
            if (blank) {
                goodBridge("keeps 2" + c + ";");
            } else if (!digit) {
                badBridge("keeps 2" + c + ";", 1, letter ? 6 : c == ';' ? 8 : 7);
            }
        }
    }

    // "SIGN: < = >", and of all bytes no other one
    private static void everyByteAsSign() {
        for (int b = 0; b < 256; b++) {
            char c = (char) b;
            boolean goesOn = c >= 'a' && c <= 'z' || c >= '0' && c <= '9';
            if (c == '<' || c == '=' || c == '>') {
                good(Text.SENTENCE, "miles" + c + "1", 1);
            } else if (goesOn) {
                bad(Text.SENTENCE, "miles" + c + "1", 1, 0);
            } else {
                bad(Text.SENTENCE, "miles" + c + "1", 1, b == 32 || b == 10 ? 6 : 5);
            }
        }
        bad(Text.SENTENCE, "miles<=1", 1, 6);
        bad(Text.SENTENCE, "miles> >1", 1, 7);
    }

    // "with blanks (32, 10) between them or not"
    private static void blanksOrNot() {
        goodBridge("rows 3;keeps 0;load p 9 1;");
        goodBridge("rows\n3\n;\nkeeps\n0\n;\n\n");
        goodBridge(" \n rows \n 3 \n ; \n ");
        good(Text.SENTENCE, "not(miles<1)and(dead)", 5);
        good(Text.SENTENCE, " not ( miles < 1 )\nand ( dead ) ", 5);
        badBridge("rows3;", 1, 0);
        badBridge("signer a 11;", 2, 9);
        badBridge("signer a1 1;", 1, 7);
        bad(Text.SENTENCE, "notdead", 1, 0);
        bad(Text.SENTENCE, "dead ordead", 1, 5);
        bad(Text.SENTENCE, "on3", 1, 0);
        badBridge("row s 3;", 1, 0);
    }

    // a NUMBER is no sign, even if a sign is that byte: 59 ;  60 <  61 =  62 >  40 (  41 )
    private static void numbersAreNoSigns() {
        badBridge("rows 3 59", 1, 7);
        badBridge("rows 3 059", 1, 7);
        bad(Text.BOOK, "day 1 59", 1, 6);
        for (int sign = 60; sign <= 62; sign++) {
            bad(Text.SENTENCE, "miles " + sign + " 1", 1, 6);
        }
        bad(Text.SENTENCE, "40 dead 41", 1, 0);
        bad(Text.SENTENCE, "(dead 41", 1, 6);
        // nor is it a WORD, even if a WORD has that number somewhere
        for (int n = 0; n < 30; n++) {
            badBridge(n + " 3;", 1, 0);
            bad(Text.BOOK, n + " 3;", 1, 0);
            bad(Text.SENTENCE, "" + n, 1, 0);
            bad(Text.SENTENCE, "dead " + n + " dead", 1, 5);
        }
    }

    // "WORDS: small letters, 1 to 7"
    private static void lengthsOfWords() {
        String letters = "abcdefghijk";
        for (int n = 1; n <= letters.length(); n++) {
            String name = letters.substring(0, n);
            if (n <= 7) {
                goodBridge("signer " + name + " 1 1;");
                goodBridge("load " + name + " 1 1;");
                bad(Text.BOOK, name + " holds;", 3, 0);
                bad(Text.SENTENCE, "loves " + name, 3, 6);
            } else {
                badBridge("signer " + name + " 1 1;", 1, 7);
                badBridge("load " + name + " 1 1;", 1, 5);
                bad(Text.BOOK, name + " holds;", 1, 0);
                bad(Text.SENTENCE, "loves " + name, 1, 6);
            }
        }
        // names are told apart by all of their seven letters
        goodBridge("signer abcdefg 1 1;signer abcdefh 1 1;signer bbcdefg 1 1;signer abcdef 1 1;signer bcdefg 1 1;"
                + "signer z 1 1;signer zz 1 1;signer zzzzzzz 1 1;signer a 1 1;signer aa 1 1;load aaaaaaa 1 1;");
    }

    // "NUMBERS: 1 to 3 digits"
    private static void lengthsOfNumbers() {
        goodBridge("rows 7;");
        goodBridge("rows 07;");
        goodBridge("rows 007;");
        badBridge("rows 0007;", 1, 5);
        badBridge("rows 00000000007;", 1, 5);
        badBridge("rows 4294967303;", 1, 5);
        badBridge("rows 999;", 2, 5);
        badBridge("rows 1000;", 1, 5);
        good(Text.SENTENCE, "miles<999", 1);
        bad(Text.SENTENCE, "miles<1000", 1, 6);
        good(Text.SENTENCE, "miles<000", 1);
        bad(Text.SENTENCE, "miles<0000", 1, 6);
        check.due("007 is 7", Check.bridge("rows 007;").count(0), 7);
        check.due("300 is 300", Check.bridge("load p 300 1;").load(0, 0), 300);
    }

    // "A WORD, NUMBER goes on as long as small letters and digits do; what is not as told is no TOKEN"
    private static void wordsAndNumbersGoOn() {
        badBridge("signer a1 1 1;", 1, 7);
        badBridge("signer 1a 1 1;", 1, 7);
        badBridge("signer a1b 1 1;", 1, 7);
        badBridge("rows 3a;", 1, 5);
        badBridge("rows3 3;", 1, 0);
        badBridge("3rows 3;", 1, 0);
        badBridge("rows 1rows;", 1, 5);
        badBridge("signer Ana 1 1;", 1, 7);
        badBridge("signer anA 1 1;", 1, 9);
        badBridge("rows -1;", 1, 5);
        badBridge("rows +1;", 1, 5);
        badBridge("rows 1.;", 1, 6);
        badBridge("rows 1,;", 1, 6);
        bad(Text.BOOK, "day1;", 1, 0);
        bad(Text.SENTENCE, "earnest5", 1, 0);
    }

    /** Each NUMBER from 0 to 999 at one place of a text: as told from low to high, FAULT 2 at it otherwise. */
    private static void range(Text kind, String ahead, String behind, int low, int high) {
        SignedBridge x = base();
        for (int n = 0; n < 1000; n++) {
            if (n % 40 == 0) {
                x = base();
            }
            range(x, kind, ahead, n, behind, n >= low && n <= high);
        }
        bad(kind, ahead + "1000" + behind, 1, ahead.length());
        bad(kind, ahead + "x" + behind, 1, ahead.length());
    }

    private static void range(SignedBridge x, Text kind, String ahead, int n, String behind, boolean may) {
        String text = ahead + n + behind;
        // a BRIDGE as told would be the BRIDGE then, so that each is read by an object of its own
        SignedBridge y = kind == Text.BRIDGE && may ? base() : x;
        y.end(0);
        for (int[] f : Tape.feeds(Tape.bytes(text))) {
            y.feed(f[0], f[1], f[2], f[3], f[4]);
        }
        y.end(text.length());
        int answer = read(y, kind);
        int first = kind == Text.BOOK ? -2 : -1;
        check.due("answer of " + kind + " " + text, may ? answer > first : answer == first - ahead.length(), true);
        check.due("fault() of " + kind + " " + text, y.fault(), may ? 0 : 2);
    }

    // "'rows' N (1 to 12; ..)", "EARNEST MILES .. (0 to 9, 1 to 9)", "WEIGHT WIDE (1 to 300; 1 to 3)", "'keeps' N (0 to 30; ..)"
    private static void numbersOfBridges() {
        range(Text.BRIDGE, "rows ", ";", 1, 12);
        range(Text.BRIDGE, "keeps ", ";", 0, 30);
        range(Text.BRIDGE, "signer a ", " 1;", 0, 9);
        range(Text.BRIDGE, "signer a 0 ", ";", 1, 9);
        range(Text.BRIDGE, "signer a 9 ", " forger;", 1, 9);
        range(Text.BRIDGE, "load a ", " 1;", 1, 300);
        range(Text.BRIDGE, "load a 300 ", ";", 1, 3);
        check.due("12 ROWS", Check.bridge("rows 12;").count(0), 12);
        check.due("1 ROW", Check.bridge("rows 1;").count(0), 1);
        check.due("'keeps' 0", Check.bridge("keeps 0;").count(4), 0);
        check.due("'keeps' 30", Check.bridge("keeps 30;").count(4), 30);
        SignedBridge x = Check.bridge("signer a 0 9;signer b 9 1;load c 1 3;load d 300 1;");
        check.due("EARNEST 0", x.signer(0, 0), 0);
        check.due("MILES 9", x.signer(0, 1), 9);
        check.due("EARNEST 9", x.signer(1, 0), 9);
        check.due("MILES 1", x.signer(1, 1), 1);
        check.due("WEIGHT 1", x.load(0, 0), 1);
        check.due("WIDE 3", x.load(0, 1), 3);
        check.due("WEIGHT 300", x.load(1, 0), 300);
        check.due("WIDE 1", x.load(1, 1), 1);
    }

    // "'plank' SIGNER ROW K (a ROW that there is; 0 to 2; ..)", "(..; 4 without)"
    private static void numbersOfPlaces() {
        for (int rows = 1; rows <= 12; rows++) {
            range(Text.BRIDGE, "rows " + rows + ";signer a 1 1;plank a ", " 2;", 0, rows - 1);
        }
        range(Text.BRIDGE, "signer a 1 1;plank a ", " 0;", 0, 3);
        range(Text.BRIDGE, "signer a 1 1;plank a 3 ", ";", 0, 2);
        for (int place = 0; place < 36; place++) {
            SignedBridge x = Check.bridge("rows 12;signer a 1 1;plank a " + place / 3 + " " + place % 3 + ";");
            check.due("a plank at " + place, x.plank(place / 3, place % 3, 0), 0);
            check.due("and no other", x.now(2), 1);
        }
    }

    // "(ROW 0 to 11, K 0 to 2, N 1 to 60)"
    private static void numbersOfBooks() {
        range(Text.BOOK, "ana signs ", " 0;", 0, 11);
        range(Text.BOOK, "ana signs 11 ", ";", 0, 2);
        range(Text.BOOK, "burns ", " 2;", 0, 11);
        range(Text.BOOK, "burns 0 ", ";", 0, 2);
        range(Text.BOOK, "day ", ";", 1, 60);
        // by a BRIDGE of fewer ROWS they are the same: such a LINE is WRONG, it is no FAULT
        SignedBridge x = Check.bridge("rows 1;signer ana 4 1;");
        Tape.put(x, "ana signs 11 0;");
        check.due("ROW 11 of one", x.book(0), 0);
        check.due("no FAULT", x.fault(), 0);
        Tape.put(x, "burns 12 0;");
        check.due("ROW 12", x.book(0), -2 - 6);
        check.due("a FAULT", x.fault(), 2);
    }

    // "'on' ROW (..; 0 to 11)", "SIGN NUMBER"
    private static void numbersOfSentences() {
        range(Text.SENTENCE, "on ", "", 0, 11);
        for (String what : new String[] {"earnest", "planks", "miles", "number"}) {
            for (char sign : new char[] {'<', '=', '>'}) {
                range(Text.SENTENCE, what + sign, "", 0, 999);
            }
        }
    }

    // "NAME: a WORD, none of those told here, in a BOOK or a SENTENCE"
    private static void wordsThatAreNoNames() {
        for (String key : KEYS) {
            badBridge("signer " + key + " 1 1;", 1, 7);
            badBridge("load " + key + " 1 1;", 1, 5);
            badBridge("signer a 1 1;plank " + key + " 0 0;", 1, 19);
            badBridge("signer a 1 1;heir a " + key + ";", 1, 20);
            badBridge("signer a 1 1;lovers " + key + " a;", 1, 20);
            bad(Text.SENTENCE, "loves " + key, 1, 6);
            bad(Text.SENTENCE, "follows " + key, 1, 8);
            // a letter less or more, and it is a NAME
            String less = key.substring(0, key.length() - 1);
            if (!Arrays.asList(KEYS).contains(less)) {
                goodBridge("signer " + less + " 1 1;");
            }
            String more = key + "s";
            if (more.length() <= 7 && !Arrays.asList(KEYS).contains(more)) {
                goodBridge("load " + more + " 1 1;");
            }
        }
        // a WORD of a PLATE, but of no text
        goodBridge("signer gap 1 1;");
        goodBridge("load gap 1 1;");
        // those of a BRIDGE begin no LINE of a BOOK, and the other way round
        for (String key : KEYS) {
            boolean line = Arrays.asList("rows", "signer", "heir", "lovers", "plank", "load", "keeps").contains(key);
            badBridge(key, 1, line ? key.length() : 0);
            boolean deed = key.equals("burns") || key.equals("day");
            bad(Text.BOOK, key, 1, deed ? key.length() : 0);
        }
    }

    // "3 a NAME told twice, not told"
    private static void namesToldOnce() {
        badBridge("signer a 1 1;signer a 1 1;", 3, 20);
        badBridge("load a 1 1;load a 1 1;", 3, 16);
        badBridge("signer a 1 1;load a 1 1;", 3, 18);
        badBridge("load a 1 1;signer a 1 1;", 3, 18);
        badBridge("heir a b;", 3, 5);
        badBridge("lovers a b;", 3, 7);
        badBridge("plank a 0 0;", 3, 6);
        badBridge("signer a 1 1;heir a b;", 3, 20);
        badBridge("signer a 1 1;lovers a b;", 3, 22);
        // told behind is not told yet
        badBridge("plank a 0 0;signer a 1 1;", 3, 6);
        // the NAMES of the BRIDGE that there was are told no more
        goodBridge("signer ana 1 1;signer car 1 1;");
        badBridge("plank ana 0 0;", 3, 6);
        bad(Text.BOOK, "zed dies;", 3, 0);
        bad(Text.SENTENCE, "loves zed", 3, 6);
        bad(Text.SENTENCE, "follows zed", 3, 8);
    }

    // "3 a NAME .. of another sort"
    private static void namesOfAnotherSort() {
        String both = "signer a 1 1;load p 1 1;";
        badBridge(both + "plank p 0 0;", 3, both.length() + 6);
        badBridge(both + "heir p a;", 3, both.length() + 5);
        badBridge(both + "heir a p;", 3, both.length() + 7);
        badBridge(both + "lovers p a;", 3, both.length() + 7);
        badBridge(both + "lovers a p;", 3, both.length() + 9);
        bad(Text.SENTENCE, "loves car", 3, 6);
        bad(Text.SENTENCE, "follows car", 3, 8);
    }

    // "3 .. two alike that must be unlike, or told again (at the second)", "each two once, in whatever order"
    private static void alikeAndAgain() {
        String two = "signer a 1 1;signer b 1 1;";
        badBridge(two + "heir a a;", 3, two.length() + 7);
        badBridge(two + "lovers b b;", 3, two.length() + 9);
        badBridge(two + "lovers a b;lovers a b;", 3, two.length() + 20);
        badBridge(two + "lovers a b;lovers b a;", 3, two.length() + 20);
        goodBridge(two + "lovers b a;heir a b;heir b a;");
        String place = two + "plank a 0 0;";
        badBridge(place + "plank a 0 0;", 3, place.length() + 10);
        badBridge(place + "plank b 0 0;", 3, place.length() + 10);
        goodBridge(place + "plank b 0 1;plank b 1 0;");
    }

    // "3 .. a SIGNER who has an heir already, or 6 planks (at him)", "(..; each first once)", "(..; a SIGNER has 6 at most)"
    private static void heirsAndPlanksAtHim() {
        String three = "signer a 1 1;signer b 1 1;signer c 1 1;";
        badBridge(three + "heir a b;heir a c;", 3, three.length() + 14);
        badBridge(three + "heir a b;heir a a;", 3, three.length() + 14);
        badBridge(three + "heir a b;heir a", 3, three.length() + 14);
        goodBridge(three + "heir a c;heir b c;heir c a;");
        StringBuilder six = new StringBuilder("rows 12;" + three);
        for (int place = 0; place < 6; place++) {
            six.append("plank a ").append(place).append(" 0;");
        }
        goodBridge(six.toString());
        badBridge(six + "plank a 6 0;", 3, six.length() + 6);
        badBridge(six + "plank a 0 0;", 3, six.length() + 6);
        badBridge(six + "plank a", 3, six.length() + 6);
        goodBridge(six + "plank b 6 0;");
    }

    // "3 .. 'rows', 'keeps' told again, 'rows' behind a plank (at it)", "(..; once, ahead of all planks; ..)"
    private static void rowsAndKeepsOnce() {
        badBridge("rows 3;rows 3;", 3, 7);
        badBridge("rows 3;rows", 3, 7);
        badBridge("keeps 5;keeps 5;", 3, 8);
        badBridge("keeps 0;keeps 99;", 3, 8);
        badBridge("signer a 1 1;plank a 0 0;rows 3;", 3, 25);
        badBridge("rows 3;signer a 1 1;plank a 0 0;rows 3;", 3, 32);
        goodBridge("keeps 1;signer a 1 1;load p 1 1;rows 3;plank a 2 0;");
        goodBridge("signer a 1 1;plank a 0 0;keeps 3;");
    }

    // "4 one more than there may be of a sort .. (at the LINE's first WORD)", "10 SIGNERS, 6 LOADS, 8 'lovers' at most"
    private static void oneMoreOfASort() {
        StringBuilder ten = new StringBuilder();
        for (char c = 'a'; c <= 'j'; c++) {
            ten.append("signer ").append(c).append(" 1 1;");
        }
        goodBridge(ten.toString());
        badBridge(ten + "signer k 1 1;", 4, ten.length());
        badBridge(ten + "  signer a 1 1;", 4, ten.length() + 2);
        badBridge(ten + "signer 7", 4, ten.length());
        StringBuilder eight = new StringBuilder(ten);
        for (char c = 'b'; c <= 'i'; c++) {
            eight.append("lovers a ").append(c).append(';');
        }
        goodBridge(eight.toString());
        badBridge(eight + "lovers a j;", 4, eight.length());
        badBridge(eight + "lovers a a;", 4, eight.length());
        StringBuilder six = new StringBuilder();
        for (char c = 'k'; c <= 'p'; c++) {
            six.append("load ").append(c).append(" 1 1;");
        }
        goodBridge(six.toString());
        badBridge(six + "load q 1 1;", 4, six.length());
        badBridge(six + "load k 1 1;", 4, six.length());
        goodBridge(six + ten.toString());
    }

    /** A BRIDGE with the most of all: 12 ROWS, 36 PLANKS, 10 SIGNERS who have heirs, 8 'lovers', 6 LOADS. */
    static String fullText() {
        StringBuilder out = new StringBuilder("rows 12;keeps 30;");
        for (char c = 'a'; c <= 'j'; c++) {
            out.append("signer ").append(c).append(" 9 ").append(c - 'a' < 9 ? c - 'a' + 1 : 9).append(';');
        }
        for (char c = 'a'; c <= 'j'; c++) {
            out.append("heir ").append(c).append(' ').append(c == 'j' ? 'a' : (char) (c + 1)).append(';');
        }
        for (char c = 'a'; c <= 'h'; c++) {
            out.append("lovers ").append(c).append(' ').append((char) (c + 1)).append(';');
        }
        for (int place = 0; place < 36; place++) {
            out.append("plank ").append((char) ('a' + place % 10)).append(' ').append(place / 3).append(' ');
            out.append(place % 3).append(';');
        }
        for (char c = 'k'; c <= 'p'; c++) {
            out.append("load ").append(c).append(' ').append(c - 'j').append("0 ").append(1 + (c - 'k') / 2).append(';');
        }
        return out.toString();
    }

    private static void fullBridge() {
        String text = fullText();
        check.due("it is short enough", text.length() <= 900, true);
        goodBridge(text);
        goodBridge(text + blanks(900 - text.length()));
        badBridge(text + blanks(901 - text.length()), 1, 900);
        SignedBridge x = Check.bridge(text);
        int[] counts = {12, 10, 6, 8, 30, 0};
        for (int what = 0; what < 6; what++) {
            check.due("full count(" + what + ")", x.count(what), counts[what]);
        }
        check.due("36 PLANKS", x.now(2), 36);
        for (int place = 0; place < 36; place++) {
            check.due("place " + place, x.plank(place / 3, place % 3, 0), place % 10);
        }
        for (int s = 0; s < 10; s++) {
            check.due("the heir of " + s, x.signer(s, 3), (s + 1) % 10);
            int loved = (s > 0 && s < 9 ? 1 << s - 1 : 0) | (s < 8 ? 1 << s + 1 : 0);
            check.due("whom " + s + " loves", x.signer(s, 4), loved);
            check.due("MILES of " + s, x.signer(s, 1), Math.min(9, s + 1));
            check.due("PLANKS of " + s, x.signer(s, 6), s < 6 ? 4 : 3);
        }
        for (int l = 0; l < 6; l++) {
            check.due("WEIGHT of " + l, x.load(l, 0), 10 + 10 * l);
            check.due("WIDE of " + l, x.load(l, 1), 1 + l / 2);
        }
    }

    // "1 .. (the end: how many bytes there are ..)": each LINE broken off behind each of its TOKENS, with blanks or not
    private static void tooFewOfALine() {
        String told = "signer a 1 1;signer b 1 1;load p 1 1;";
        String[] lines = {"rows 3 ;", "signer c 1 1 ;", "signer d 1 1 forger ;", "heir a b ;", "lovers a b ;", "plank a 0 0 ;",
            "load q 1 1 ;", "keeps 3 ;"};
        for (String line : lines) {
            String[] tokens = line.split(" ");
            String sofar = told;
            for (int i = 0; i < tokens.length - 1; i++) {
                sofar = sofar + (i > 0 ? " " : "") + tokens[i];
                badBridge(sofar, 1, sofar.length());
                badBridge(sofar + "  \n", 1, sofar.length() + 3);
                boolean mayCome = i == 3 && tokens[0].equals("signer");
                badBridge(sofar + " <", 1, sofar.length() + 1);
                badBridge(sofar + (mayCome ? " 1" : " ("), 1, sofar.length() + 1);
            }
            goodBridge(sofar + ";");
            badBridge(sofar + ";;", 1, sofar.length() + 1);
        }
    }

    // the same of BOOKS and SENTENCES
    private static void endOfBooksAndSentences() {
        String[] lines = {"ana signs 0 0 ;", "ana breaks ;", "ana holds ;", "ana dies ;", "burns 0 0 ;", "car crosses ;",
            "day 60 ;"};
        for (String line : lines) {
            String[] tokens = line.split(" ");
            String sofar = "day 1;";
            for (int i = 0; i < tokens.length - 1; i++) {
                sofar = sofar + (i > 0 ? " " : "") + tokens[i];
                bad(Text.BOOK, sofar, 1, sofar.length());
                bad(Text.BOOK, sofar + " \n", 1, sofar.length() + 2);
                bad(Text.BOOK, sofar + " =", 1, sofar.length() + 1);
            }
            bad(Text.BOOK, sofar + ";;", 1, sofar.length() + 1);
        }
        good(Text.BOOK, "", -1);
        good(Text.BOOK, " \n", -1);
        String[] broken = {"", "not", "(", "( dead", "( dead or", "( dead or forged", "( ( dead )", "dead and", "dead or",
            "loves", "follows", "on", "earnest", "planks <", "miles =", "number >", "dead and not", "not (", "( not dead"};
        for (String text : broken) {
            bad(Text.SENTENCE, text, 1, text.length());
            bad(Text.SENTENCE, text + " \n ", 1, text.length() + 3);
        }
        String[] whole = {"dead", "not dead", "( dead )", "loves ana", "follows ana", "on 3", "earnest < 5", "dead and dead",
            "dead or dead"};
        for (String text : whole) {
            for (String more : new String[] {";", ")", "(", "not", "dead", "ana", "5", "<", "."}) {
                bad(Text.SENTENCE, text + " " + more, 1, text.length() + 1);
            }
        }
    }

    // "a text of at most 900 bytes", ".. 400 bytes", ".. 200 bytes"; "the most bytes told, if there are more"
    private static void tooManyBytes() {
        Text[] kinds = Text.values();
        String[] texts = {"rows 3;", "day 1;", "dead"};
        int[] most = {900, 400, 200};
        int[] answers = {1, -1, 1};
        for (int i = 0; i < 3; i++) {
            int rest = most[i] - texts[i].length();
            good(kinds[i], texts[i] + blanks(rest - 1), answers[i]);
            good(kinds[i], texts[i] + blanks(rest), answers[i]);
            good(kinds[i], at(rest, texts[i]), answers[i]);
            bad(kinds[i], at(rest + 1, texts[i]), 1, most[i]);
            bad(kinds[i], at(most[i], texts[i]), 1, most[i]);
            for (int size : new int[] {most[i] + 1, most[i] + 2, 920, 939, 940}) {
                bad(kinds[i], texts[i] + blanks(size - texts[i].length()), 1, Math.min(size, most[i]));
            }
        }
        good(Text.BRIDGE, blanks(900), 0);
        bad(Text.BRIDGE, blanks(901), 1, 900);
        good(Text.BOOK, blanks(400), -1);
        bad(Text.BOOK, blanks(401), 1, 400);
        bad(Text.SENTENCE, blanks(200), 1, 200);
        bad(Text.SENTENCE, blanks(201), 1, 200);
        // a LINE or a SENTENCE that is not whole at the most bytes
        bad(Text.BRIDGE, at(896, "rows 3;"), 1, 900);
        bad(Text.BOOK, at(396, "day 1;"), 1, 400);
        bad(Text.SENTENCE, at(195, "dead or dead"), 1, 200);
    }

    // "TOKENS that begin ahead of it are read whole"
    private static void tokensReadWhole() {
        // begins at 899, 399, 199: it is the TOKEN that it is with what is behind the most bytes
        badBridge(at(899, "rows 3;"), 1, 900);
        badBridge(at(899, "row"), 1, 899);
        badBridge(at(899, "rowsabcd"), 1, 899);
        badBridge(at(894, "rows 12;"), 1, 900);
        badBridge(at(894, "rows 13;"), 2, 899);
        badBridge(at(894, "rows 1234"), 1, 899);
        badBridge(at(894, "rows 1x"), 1, 899);
        badBridge("signer abcdefg 1 1;" + blanks(873) + "signer abcdefg 1 1;", 3, 899);
        badBridge("signer abcdefg 1 1;" + blanks(873) + "signer abcdefh 1 1;", 1, 900);
        badBridge("signer abcdefg 1 1;" + blanks(873) + "signer abcdefgh 1 1;", 1, 899);
        bad(Text.BOOK, at(399, "ana dies;"), 1, 400);
        bad(Text.BOOK, at(399, "anna dies;"), 3, 399);
        bad(Text.BOOK, at(395, "day 60;"), 1, 400);
        bad(Text.BOOK, at(395, "day 61;"), 2, 399);
        bad(Text.SENTENCE, at(199, "dead"), 1, 200);
        bad(Text.SENTENCE, at(199, "deadly"), 1, 199);
        bad(Text.SENTENCE, at(196, "on 11"), 1, 200);
        bad(Text.SENTENCE, at(196, "on 12"), 2, 199);
        bad(Text.SENTENCE, at(193, "loves ana"), 1, 200);
        bad(Text.SENTENCE, at(193, "loves anna"), 3, 199);
        // begins at 900, 400, 200: it is not looked at
        badBridge(at(895, "rows 13;"), 1, 900);
        badBridge(at(900, "?"), 1, 900);
        bad(Text.BOOK, at(400, "zed dies;"), 1, 400);
        bad(Text.SENTENCE, at(197, "on 12"), 1, 200);
    }

    // "if there are more and no FAULT is ahead"
    private static void faultsAheadOfTheMost() {
        badBridge("rows 13;" + blanks(932), 2, 5);
        badBridge("rows" + blanks(895) + ";" + blanks(40), 1, 899);
        badBridge(at(899, ";") + blanks(40), 1, 899);
        badBridge("rows 3;" + blanks(892) + "rows 3;", 3, 899);
        badBridge(ten() + blanks(899 - ten().length()) + "signer k 1 1;", 4, 899);
        badBridge(ten() + blanks(900 - ten().length()) + "signer k 1 1;", 1, 900);
        String forty = "day 1;".repeat(40);
        bad(Text.BOOK, forty + blanks(159) + "day 1;", 4, 399);
        bad(Text.BOOK, forty + blanks(160) + "day 1;", 1, 400);
        String twenty = "dead" + " or dead".repeat(19);
        bad(Text.SENTENCE, twenty + blanks(196 - twenty.length()) + "or dead", 4, 199);
        bad(Text.SENTENCE, twenty + blanks(197 - twenty.length()) + "or dead", 1, 200);
    }

    private static String ten() {
        StringBuilder out = new StringBuilder();
        for (char c = 'a'; c <= 'j'; c++) {
            out.append("signer ").append(c).append(" 1 1;");
        }
        return out.toString();
    }

    // "{ LINE ; }, 40 at most", "4 .. a 41st LINE of a BOOK (at the LINE's first WORD)"
    private static void fortyLines() {
        String line = "day 1;";
        good(Text.BOOK, line, -1);
        good(Text.BOOK, line.repeat(39), -1);
        good(Text.BOOK, line.repeat(40), -1);
        good(Text.BOOK, line.repeat(40) + " \n", -1);
        bad(Text.BOOK, line.repeat(41), 4, 240);
        bad(Text.BOOK, line.repeat(40) + " \nana dies;", 4, 242);
        bad(Text.BOOK, line.repeat(40) + "car", 4, 240);
        bad(Text.BOOK, line.repeat(40) + "burns", 4, 240);
        SignedBridge x = base();
        Tape.put(x, line.repeat(40));
        x.book(1);
        check.due("forty LINES are lived", x.now(0), 40);
        check.due("and told", x.told(1), 40);
    }

    // "20 ONES", "4 .. a 21st ONE .. (at its first TOKEN)"; promise 41: "how many ONES (each not, bracket and other one)"
    private static void twentyOnes() {
        for (int n = 1; n <= 20; n++) {
            good(Text.SENTENCE, "dead" + " or dead".repeat(n - 1), n);
        }
        String twenty = "dead" + " or dead".repeat(19);
        bad(Text.SENTENCE, twenty + " or dead", 4, twenty.length() + 4);
        bad(Text.SENTENCE, twenty + " and not dead", 4, twenty.length() + 5);
        bad(Text.SENTENCE, twenty + " and (dead)", 4, twenty.length() + 5);
        String nineteen = "dead" + " or dead".repeat(18);
        bad(Text.SENTENCE, nineteen + " or not dead", 4, nineteen.length() + 8);
        bad(Text.SENTENCE, nineteen + " or (dead)", 4, nineteen.length() + 5);
        good(Text.SENTENCE, "dead" + " or dead".repeat(17) + " or not dead", 20);
        good(Text.SENTENCE, "dead" + " or dead".repeat(17) + " or (dead)", 20);
        good(Text.SENTENCE, "not(dead and not forged)", 5);
        good(Text.SENTENCE, "not dead" + " or not dead".repeat(9), 20);
    }

    // "8 within one another", "4 .. a ninth within (at its first TOKEN)"
    private static void eightWithin() {
        for (int n = 0; n <= 7; n++) {
            good(Text.SENTENCE, "not ".repeat(n) + "dead", n + 1);
            good(Text.SENTENCE, "(".repeat(n) + "dead" + ")".repeat(n), n + 1);
        }
        bad(Text.SENTENCE, "not ".repeat(8) + "dead", 4, 32);
        bad(Text.SENTENCE, "not ".repeat(9) + "dead", 4, 32);
        bad(Text.SENTENCE, "(".repeat(8) + "dead" + ")".repeat(8), 4, 8);
        bad(Text.SENTENCE, "(".repeat(9), 4, 8);
        bad(Text.SENTENCE, "not(not(not(not(miles<1", 4, 16);
        good(Text.SENTENCE, "not(not(not(not dead)))", 8);
        // behind a bracket that is closed it is as it was ahead of it
        good(Text.SENTENCE, "(((((((dead)))))))or not not not not not not not dead", 16);
        good(Text.SENTENCE, "((((((dead)and dead)and not dead)or dead)or dead)or dead)or dead", 14);
        good(Text.SENTENCE, "(((((((dead)and(dead)))))))", 10);
        bad(Text.SENTENCE, "(((((((dead)and((dead", 4, 17);
        bad(Text.SENTENCE, "(((((((dead or not dead", 4, 19);
        good(Text.SENTENCE, "(((((((dead and forged)))))))", 9);
    }

    // "FAULTS, the first along the text"
    private static void theFirstAlongTheText() {
        badBridge("rows 13;signer a 99 0;?", 2, 5);
        badBridge("signer a 10 0;", 2, 9);
        badBridge("plank a 99 9;", 3, 6);
        badBridge("signer a 1 1;plank a 99 9;", 2, 21);
        badBridge("load a 0 0;", 2, 7);
        badBridge("? rows 13;", 1, 0);
        bad(Text.BOOK, "ana signs 12 3;?", 2, 10);
        bad(Text.BOOK, "car signs 99 99;", 1, 4);
        bad(Text.BOOK, "ana crosses;zed dies;", 1, 4);
        bad(Text.SENTENCE, "on 12 or loves zed", 2, 3);
        bad(Text.SENTENCE, "loves zed or on 12", 3, 6);
    }

    // "of one TOKEN the least"
    private static void ofOneTokenTheLeast() {
        String forty = "day 1;".repeat(40);
        bad(Text.BOOK, forty + "zed dies;", 3, 240);
        bad(Text.BOOK, forty + "abcdefgh dies;", 1, 240);
        bad(Text.BOOK, forty + "keeps 3;", 1, 240);
        bad(Text.BOOK, forty + "7;", 1, 240);
        bad(Text.BOOK, forty + ";", 1, 240);
        bad(Text.BOOK, forty + "?", 1, 240);
        bad(Text.BOOK, forty + "ana signs 99 99;", 4, 240);
        String twenty = "dead" + " or dead".repeat(19);
        for (String one : new String[] {"ana", "7", ")", ";", "or", "and", "rows", "?", ""}) {
            bad(Text.SENTENCE, twenty + " or " + one, 1, twenty.length() + 4);
        }
        for (String one : new String[] {"ana", "7", ")", ";", "or", "and", "rows", "?", ""}) {
            bad(Text.SENTENCE, "(".repeat(8) + one, 1, 8);
        }
        // a NUMBER of four digits is no TOKEN, whatever it is; a WORD that is no NAME is not one that is not told
        badBridge("rows 0000;", 1, 5);
        badBridge("signer a 1 1;heir a b;heir a number;", 3, 20);
        badBridge("plank number 0 0;", 1, 6);
    }

    // Promise 4: "-1 less the place of a FAULT: it stays"
    private static void aFaultLeavesAll() {
        for (Text kind : Text.values()) {
            SignedBridge x = Check.bridge("rows 2;signer a 5 1;signer b 3 1;lovers a b;plank a 0 0;plank b 0 1;load p 9 1;");
            Tape.put(x, "earnest < 5");
            x.sentence();
            x.burn(0, 1);
            x.die(1);
            x.days(1);
            x.cross(0);
            String state = Seen.state(x);
            Tape.put(x, "rows 5;signer zed 1 1;load car 1 1;?");
            read(x, kind);
            check.due("a FAULT of a " + kind, x.fault() > 0, true);
            check.dueText("all stays", Seen.state(x), state);
            check.due("undo() still can be", x.undo(), 3);
        }
    }

    // "A new BRIDGE: DAY 0, nobody is dead, nothing SINGED, FALLEN, no SENTENCE."
    private static void aNewBridgeIsNew() {
        String text = "rows 2;signer a 5 1;signer b 3 1 forger;heir a b;lovers a b;plank a 0 0;plank b 0 1;plank a 1 0;"
                + "load p 9 1;load q 200 1;keeps 1;";
        String anew = Seen.all(Check.bridge(text));
        SignedBridge x = Check.bridge(text);
        Tape.put(x, "dead");
        x.sentence();
        x.cross(0);
        x.cross(1);
        x.breaks(0);
        x.sign(0, 0, 0);
        x.sign(0, 0, 2);
        x.burn(0, 1);
        check.due("two are SINGED", x.plank(0, 0, 2) + x.plank(0, 2, 2), 2);
        x.die(0);
        x.die(1);
        x.days(1);
        check.due("much has been", x.now(0) > 0 && x.now(1) > 0 && x.now(3) > 0 && x.now(4) > 0 && x.now(5) > 0, true);
        Tape.put(x, text);
        check.due("the same BRIDGE anew", x.bridge(), 11);
        check.dueText("as if nothing had been", Seen.all(x), anew);
        check.due("nothing can be undone", x.undo(), -1);
        // what the BRIDGE ahead of it told is gone
        Tape.put(x, "signer c 5 1;signer d 5 1;plank c 0 0;plank d 0 1;load r 1 1;");
        check.due("another BRIDGE", x.bridge(), 5);
        String other = Seen.all(Check.bridge("signer c 5 1;signer d 5 1;plank c 0 0;plank d 0 1;load r 1 1;"));
        check.dueText("as of a new object", Seen.all(x), other);
        check.due("an empty one", x.bridge(), 0);
        check.dueText("is as a new object has it", Seen.all(x), Seen.all(new SignedBridge()));
    }

    // Promise 5: "of the latest bridge(), book() or sentence() (a book() of -1000 leaves it); 0 without one and ahead of any"
    private static void faultOfTheLatest() {
        SignedBridge x = base();
        check.due("0 without one", x.fault(), 0);
        String[] texts = {"?", "rows 0;", "plank zed 0 0;", ten() + "signer k 1 1;"};
        for (int kind = 1; kind <= 4; kind++) {
            Tape.put(x, texts[kind - 1]);
            x.bridge();
            check.due("a FAULT of a BRIDGE", x.fault(), kind);
            Tape.put(x, "day 1;");
            for (int lives : new int[] {-1, 2, Integer.MIN_VALUE, Integer.MAX_VALUE}) {
                check.due("another lives", x.book(lives), -1000);
            }
            check.due("leaves it", x.fault(), kind);
            x.end(0);
            x.forgers();
            x.image(0);
            x.restore(0);
            x.days(1);
            x.undo();
            check.due("no other call changes it", x.fault(), kind);
        }
        Tape.put(x, "dead");
        x.sentence();
        check.due("a SENTENCE without one", x.fault(), 0);
        Tape.put(x, "on 12");
        x.sentence();
        check.due("a SENTENCE with one", x.fault(), 2);
        x.book(0);
        check.due("a BOOK without one", x.fault(), 0);
        Tape.put(x, "zed dies;");
        x.book(1);
        check.due("a BOOK with one", x.fault(), 3);
        Tape.put(x, "burns 0 0;");
        check.due("a BOOK that is WRONG", x.book(0), 0);
        check.due("has no FAULT", x.fault(), 0);
    }
}
