/** Promises 1 to 5, and the FAULTS of all three texts. */
public final class TextsTest {
    private static final Check check = new Check("TextsTest");
    private static final String TEN = "signer a 1 1;signer b 1 1;signer c 1 1;signer d 1 1;signer e 1 1;"
            + "signer f 1 1;signer g 1 1;signer h 1 1;signer i 1 1;signer j 1 1;";

    public static void main(String[] args) {
        newObject();
        tape();
        bridgesAsTold();
        bridgeTokens();
        bridgeNumbers();
        bridgeNames();
        bridgeTooMany();
        longTexts();
        bridgeStaysOnFault();
        books();
        sentences();
        faultKept();
        check.close();
    }

    private static void newObject() {
        SignedBridge x = new SignedBridge();
        int[] counts = {4, 0, 0, 0, 5, 0, -1};
        for (int what = 0; what < counts.length; what++) {
            check.due("new count(" + what + ")", x.count(what), counts[what]);
        }
        check.due("new count(-1)", x.count(-1), -1);
        check.due("new fault()", x.fault(), 0);
        check.due("new said(NONE)", x.said(-1), -1);
        check.due("new undo()", x.undo(), -1);
        check.due("new now(0)", x.now(0), 0);
    }

    private static void tape() {
        SignedBridge x = new SignedBridge();
        for (int i = 1; i <= 47; i++) {
            check.due("feed " + i, x.feed(i, 2, 3, 4, 5), 20 * i);
        }
        check.due("feed beyond 940", x.feed(1, 2, 3, 4, 5), -1);
        check.due("count(5) behind it", x.count(5), 940);
        check.due("end(941)", x.end(941), false);
        check.due("end(-1)", x.end(-1), false);
        check.due("count(5) behind both", x.count(5), 940);
        check.due("end(940)", x.end(940), true);
        check.due("end(921)", x.end(921), true);
        check.due("feed beyond 940 by one", x.feed(1, 2, 3, 4, 5), -1);
        check.due("end(920)", x.end(920), true);
        check.due("feed to 940", x.feed(1, 2, 3, 4, 5), 940);
        check.due("end(0)", x.end(0), true);
        check.due("end(1) of none", x.end(1), false);
        // "rows" "12; " "load" " a 1" " 1 ;": the highest byte of each number is the first
        x.feed(0x726f7773, 0x2031323b, 0x6c6f6164, 0x20612031, 0x2031203b);
        check.due("a fed bridge()", x.bridge(), 2);
        check.due("its rows", x.count(0), 12);
        check.due("its loads", x.count(2), 1);
        check.due("the tape is empty", x.count(5), 0);
    }

    private static void bridge(String text, int answer, int fault) {
        SignedBridge x = new SignedBridge();
        Tape.put(x, text);
        check.due("bridge() of " + text, x.bridge(), answer);
        check.due("fault() of " + text, x.fault(), fault);
        check.due("count(5) behind " + text, x.count(5), 0);
    }

    private static void bridgesAsTold() {
        bridge("", 0, 0);
        bridge(" \n ", 0, 0);
        bridge("rows 1;rows1 ;", -8, 1);
        bridge("rows 12;", 1, 0);
        bridge("rows\n012\n;keeps 030;", 2, 0);
        bridge("signer ana 0 1;signer ben 9 9 forger;heir ana ben;lovers ben ana;load gap 300 3;", 5, 0);
        bridge("signer abcdefg 1 1;plank abcdefg 3 2;keeps 0;", 3, 0);
        bridge("signer gap 1 1;load heirs 1 1;", 2, 0);
        bridge("signer lead 1 1;signer lay 1 1;signer nod 1 1;signer by 1 1;signer row 1 1;load loader 1 1;", 6, 0);
        bridge("signer a 1 1;signer b 1 1;heir a b;heir b a;", 4, 0);
    }

    private static void bridgeTokens() {
        bridge("x", -1, 1);
        bridge(";", -1, 1);
        bridge("rows", -5, 1);
        bridge("rows  ", -7, 1);
        bridge("rows 3", -7, 1);
        bridge("rows 3 ", -8, 1);
        bridge("rows 3 4;", -8, 1);
        bridge("rows x;", -6, 1);
        bridge("rows 1000;", -6, 1);
        bridge("rows 1a;", -6, 1);
        bridge("rows 3;;", -8, 1);
        bridge("signer a1 1 1;", -8, 1);
        bridge("signer abcdefgh 1 1;", -8, 1);
        bridge("signer Ana 1 1;", -8, 1);
        bridge("signer 5 1 1;", -8, 1);
        bridge("signer a 1 1 forgers;", -14, 1);
        bridge("signer a 1 1 forger forger;", -21, 1);
        bridge("signer a 1;", -11, 1);
        bridge("signs a 1;", -1, 1);
        bridge("forger;", -1, 1);
        bridge("\trows 3;", -1, 1);
        bridge("rows 3;\0", -8, 1);
        bridge("rows 3." , -7, 1);
        bridge("rows <3;" , -6, 1);
        bridge("rows 3;" + (char) 233, -8, 1);
        String[] keys = ("rows signer forger heir lovers plank load keeps signs breaks holds dies burns crosses day or "
                + "and not dead forged loves follows on earnest planks miles number").split(" ");
        for (String key : keys) {
            bridge("signer " + key + " 1 1;", -8, 1);
            bridge("load " + key + " 1 1;", -6, 1);
            bridge("signer a 1 1;plank " + key + " 0 0;", -20, 1);
        }
    }

    private static void bridgeNumbers() {
        bridge("rows 0;", -6, 2);
        bridge("rows 13;", -6, 2);
        bridge("keeps 31;", -7, 2);
        bridge("signer a 10 1;", -10, 2);
        bridge("signer a 9 0;", -12, 2);
        bridge("signer a 9 10;", -12, 2);
        bridge("load a 0 1;", -8, 2);
        bridge("load a 301 1;", -8, 2);
        bridge("load a 300 0;", -12, 2);
        bridge("load a 300 4;", -12, 2);
        bridge("signer a 1 1;plank a 4 0;", -22, 2);
        bridge("rows 12;signer a 1 1;plank a 12 0;", -30, 2);
        bridge("rows 12;signer a 1 1;plank a 11 3;", -33, 2);
        bridge("rows 1;signer a 1 1;plank a 1 0;", -29, 2);
    }

    private static void bridgeNames() {
        bridge("signer a 1 1;signer a 1 1;", -21, 3);
        bridge("signer a 1 1;load a 1 1;", -19, 3);
        bridge("load a 1 1;signer a 1 1;", -19, 3);
        bridge("plank a 0 0;", -7, 3);
        bridge("load a 1 1;plank a 0 0;", -18, 3);
        bridge("signer a 1 1;heir a a;", -21, 3);
        bridge("signer a 1 1;heir a b;", -21, 3);
        bridge("signer a 1 1;heir b a;", -19, 3);
        bridge("signer a 1 1;signer b 1 1;heir a b;heir a b;", -41, 3);
        bridge("signer a 1 1;signer b 1 1;heir a b;heir a 7;", -41, 3);
        bridge("signer a 1 1;lovers a a;", -23, 3);
        bridge("signer a 1 1;signer b 1 1;lovers a b;lovers b a;", -47, 3);
        bridge("signer a 1 1;signer b 1 1;lovers a b;lovers a b;", -47, 3);
        bridge("rows 3;rows 3;", -8, 3);
        bridge("rows 3;rows x;", -8, 3);
        bridge("keeps 3;keeps 3;", -9, 3);
        bridge("signer a 1 1;plank a 0 0;rows 3;", -26, 3);
        bridge("signer a 1 1;plank a 0 0;plank a 0 0;", -36, 3);
        String six = "rows 3;signer a 1 1;plank a 0 0;plank a 0 1;plank a 0 2;plank a 1 0;plank a 1 1;plank a 1 2;";
        bridge(six, 8, 0);
        bridge(six + "plank a 2 0;", -1 - six.length() - 6, 3);
        bridge(six + "plank a 9 9;", -1 - six.length() - 6, 3);
    }

    private static void bridgeTooMany() {
        bridge(TEN, 10, 0);
        bridge(TEN + "signer k 1 1;", -1 - TEN.length(), 4);
        bridge(TEN + "signer", -1 - TEN.length(), 4);
        String six = "load k 1 1;load l 1 1;load m 1 1;load n 1 1;load o 1 1;load p 1 1;";
        bridge(six, 6, 0);
        bridge(six + "load k 1 1;", -1 - six.length(), 4);
        String eight = TEN + "lovers a b;lovers a c;lovers a d;lovers a e;lovers a f;lovers a g;lovers a h;lovers a i;";
        bridge(eight, 18, 0);
        bridge(eight + "lovers a b;", -1 - eight.length(), 4);
        bridge(eight + "heir a b;", 19, 0);
    }

    private static String blanks(int n) {
        return " ".repeat(n);
    }

    private static void longTexts() {
        bridge("rows 3;" + blanks(893), 1, 0);
        bridge("rows 3;" + blanks(894), -901, 1);
        bridge(blanks(895) + "rows 3;", -901, 1);
        bridge(blanks(899) + "x", -900, 1);
        bridge(blanks(899) + "rows 3;", -901, 1);
        bridge(blanks(899) + "rowsandmore 3;", -900, 1);
        bridge(blanks(892) + "rows 12 ;", -901, 1);
        bridge(blanks(894) + "rows 12;", -901, 1);
        bridge(blanks(894) + "rows 13;", -900, 2);
        bridge(blanks(894) + "rows 1200;", -900, 1);
        bridge(blanks(900) + "x", -901, 1);
        bridge(blanks(892) + "rows 3 x", -900, 1);
    }

    private static void bridgeStaysOnFault() {
        SignedBridge x = Check.bridge("rows 3;signer a 4 1;plank a 0 0;load b 5 1;");
        x.breaks(0);
        Tape.put(x, "earnest = 2");
        x.sentence();
        Tape.put(x, "rows 5;bad");
        check.due("bridge() with a fault", x.bridge(), -8);
        check.due("rows stay", x.count(0), 3);
        check.due("earnest stays", x.signer(0, 0), 2);
        check.due("the sentence stays", x.said(0), 0);
        check.due("undo() still can be", x.undo(), 0);
        check.due("earnest undone", x.signer(0, 0), 4);
        x.breaks(0);
        check.due("an empty bridge()", x.bridge(), 0);
        check.due("rows anew", x.count(0), 4);
        check.due("no sentence now", x.said(-1), -1);
        check.due("nothing to undo", x.undo(), -1);
    }

    private static void book(String text, int answer, int fault) {
        SignedBridge x = Check.bridge("signer ana 4 1;load car 5 1;");
        Tape.put(x, text);
        check.due("book(0) of " + text, x.book(0), answer);
        check.due("fault() of " + text, x.fault(), fault);
        check.due("count(5) behind " + text, x.count(5), 0);
    }

    private static void books() {
        book("", -1, 0);
        book("ana signs 0 0;ana breaks;ana holds;burns 0 0;car crosses;ana dies;day 60;", -1, 0);
        book("ana", -5, 1);
        book("ana signs 12 0;", -12, 2);
        book("ana signs 11 3;", -15, 2);
        book("ana signs 0;", -13, 1);
        book("burns 12 0;", -8, 2);
        book("day 0;", -6, 2);
        book("day 61;", -6, 2);
        book("day x;", -6, 1);
        book("days 1;", -2, 3);
        book("ben holds;", -2, 3);
        book("car holds;", -6, 1);
        book("ana crosses;", -6, 1);
        book("ana ana;", -6, 1);
        book("signs;", -2, 1);
        book("rows 3;", -2, 1);
        book("5;", -2, 1);
        book("ana holds", -11, 1);
        book("ana holds;;", -12, 1);
        String forty = "day 1;".repeat(40);
        book(forty, -1, 0);
        book(forty + "day 1;", -242, 4);
        book(forty + "day x;", -242, 4);
        book(forty + "ana x;", -242, 4);
        book(forty + "ben x;", -242, 3);
        book(forty + "rows;", -242, 1);
        book(blanks(394) + "day 1;", -1, 0);
        book(blanks(395) + "day 1;", -402, 1);
        book(blanks(399) + "zed holds;", -401, 3);
    }

    private static void sentence(String text, int answer, int fault) {
        SignedBridge x = Check.bridge("signer ana 4 1;load car 5 1;");
        Tape.put(x, text);
        check.due("sentence() of " + text, x.sentence(), answer);
        check.due("fault() of " + text, x.fault(), fault);
        check.due("count(5) behind " + text, x.count(5), 0);
    }

    private static void sentences() {
        sentence("dead", 1, 0);
        sentence("dead or forged and not(loves ana)", 5, 0);
        sentence("(dead)", 2, 0);
        sentence("earnest<999 and planks=0 and miles>1 and number=000", 4, 0);
        sentence("follows ana or on 11", 2, 0);
        sentence("", -1, 1);
        sentence("  ", -3, 1);
        sentence("dead dead", -6, 1);
        sentence("dead or", -8, 1);
        sentence("dead or or", -9, 1);
        sentence("not", -4, 1);
        sentence("()", -2, 1);
        sentence("(dead", -6, 1);
        sentence("(dead or dead", -14, 1);
        sentence("dead)", -5, 1);
        sentence("not dead)", -9, 1);
        sentence("(not dead;", -10, 1);
        sentence("dead;", -5, 1);
        sentence("ana", -1, 1);
        sentence("loves", -6, 1);
        sentence("loves car", -7, 3);
        sentence("loves zed", -7, 3);
        sentence("loves dead", -7, 1);
        sentence("follows 5", -9, 1);
        sentence("on 12", -4, 2);
        sentence("on ana", -4, 1);
        sentence("on =1", -4, 1);
        sentence("miles 1", -7, 1);
        sentence("miles;1", -6, 1);
        sentence("miles <x", -8, 1);
        sentence("miles <1000", -8, 1);
        sentence("signer", -1, 1);
        String twenty = "dead" + " or dead".repeat(19);
        sentence(twenty, 20, 0);
        sentence(twenty + " or dead", -1 - twenty.length() - 4, 4);
        sentence(twenty + " or loves zed", -1 - twenty.length() - 4, 4);
        sentence(twenty + " or not", -1 - twenty.length() - 4, 4);
        sentence(twenty + " or )", -1 - twenty.length() - 4, 1);
        sentence("not not not not not not not dead", 8, 0);
        sentence("not not not not not not not not dead", -33, 4);
        sentence("(((((((dead)))))))", 8, 0);
        sentence("((((((((dead))))))))", -9, 4);
        sentence("((((((((x", -9, 1);
        sentence("(not(not(not(dead))))or(not(not(not dead)))", 15, 0);
        sentence("dead" + blanks(196), 1, 0);
        sentence("dead" + blanks(197), -201, 1);
        sentence(blanks(199) + "dead", -201, 1);
        sentence(blanks(199) + "deads", -200, 1);
    }

    private static void faultKept() {
        SignedBridge x = Check.bridge("signer ana 4 1;load car 5 1;");
        Tape.put(x, "on 12");
        x.sentence();
        check.due("fault() of a sentence", x.fault(), 2);
        Tape.put(x, "day 1;");
        check.due("book(2)", x.book(2), -1000);
        check.due("book(-1)", x.book(-1), -1000);
        check.due("fault() stays", x.fault(), 2);
        check.due("the tape stays", x.count(5), 6);
        check.due("book(0)", x.book(0), -1);
        check.due("fault() of it", x.fault(), 0);
        Tape.put(x, "ben holds;");
        x.book(1);
        check.due("fault() of a book", x.fault(), 3);
        x.forgers();
        x.restore(0);
        check.due("fault() of the latest text", x.fault(), 3);
        x.bridge();
        check.due("fault() of a good bridge", x.fault(), 0);
    }
}
