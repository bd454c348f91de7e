import java.util.LinkedHashMap;
import java.util.Map;
import java.util.NoSuchElementException;
import java.util.function.ToIntFunction;

/** Each call that is refused: what it answers, and that it leaves all as it was, what can be undone and the tape, too. */
public final class RefusedTest {
    private static final Check check = new Check("RefusedTest");
    private static final int MIN = Integer.MIN_VALUE;
    private static final int MAX = Integer.MAX_VALUE;
    private static final int THROWN = -77;
    private static final int FALSE = -78;
    private static final int TAPE = 4;
    private static final String TEXT = "rows 3;keeps 3;signer ana 5 2;signer ben 9 1;signer cyd 3 3 forger;signer dov 4 2;"
            + "heir ana ben;lovers ana ben;plank ana 0 0;plank ben 0 1;plank dov 1 0;plank dov 1 1;plank dov 1 2;"
            + "plank dov 2 0;plank dov 2 1;plank dov 2 2;load car 40 1;load van 70 2;load pin 9 1;load big 300 1;";

    private static final Map<String, ToIntFunction<SignedBridge>> calls = new LinkedHashMap<>();
    private static final Map<String, Integer> answers = new LinkedHashMap<>();

    public static void main(String[] args) {
        acts();
        queries();
        texts();
        for (String name : calls.keySet()) {
            refuse(name, calls.get(name), answers.get(name));
        }
        check.close();
    }

    /** An object with something of all kinds: dead and FALLEN ones, a SENTENCE, four acts to undo, all told once. */
    private static SignedBridge rich() {
        SignedBridge x = Check.bridge(TEXT);
        check.due("big falls", x.cross(3), 2);
        check.due("ben signs again", x.sign(1, 0, 1), 0);
        check.due("cyd dies", x.die(2), 0);
        check.due("a DAY", x.days(1), 1);
        Tape.put(x, "not dead");
        x.sentence();
        x.asks(1);
        x.cut(0);
        x.order();
        x.plate(0);
        x.feed(0x00010000, 0, 0, 0, 0);
        x.end(2);
        x.forgers();
        Tape.put(x, "day 2;burns 0 2;");
        x.book(0);
        Tape.put(x, "dead");
        return x;
    }

    private static void add(String name, int answer, ToIntFunction<SignedBridge> call) {
        calls.put(name, call);
        answers.put(name, answer);
    }

    private static void refuse(String name, ToIntFunction<SignedBridge> call, int answer) {
        SignedBridge x = rich();
        String before = Seen.all(x);
        int got;
        try {
            got = call.applyAsInt(x);
        } catch (NoSuchElementException e) {
            got = THROWN;
        }
        check.due(name, got, answer);
        check.dueText("all behind " + name, Seen.all(x), before);
        check.due("undo() behind " + name, x.undo(), 3);
        check.due("DAY 0 behind " + name, x.now(0), 0);
        check.due("the tape behind " + name, x.sentence(), 1);
    }

    private static int answer(boolean done) {
        return done ? 1 : FALSE;
    }

    private static void acts() {
        for (int s : new int[] {MIN, -1, 4, MAX}) {
            add("sign(" + s + ", 0, 2)", -1, x -> x.sign(s, 0, 2));
            add("breaks(" + s + ")", -1, x -> x.breaks(s));
            add("holds(" + s + ")", -1, x -> x.holds(s));
            add("die(" + s + ")", -1, x -> x.die(s));
            add("cross(" + s + ")", -1, x -> x.cross(s));
            add("signer(" + s + ", 0)", THROWN, x -> x.signer(s, 0));
            add("load(" + s + ", 0)", THROWN, x -> x.load(s, 0));
        }
        for (int row : new int[] {MIN, -1, 3, MAX, 1431655766}) {
            add("sign(0, " + row + ", 0)", -1, x -> x.sign(0, row, 0));
            add("sign(0, 0, " + row + ")", -1, x -> x.sign(0, 0, row));
            add("burn(" + row + ", 0)", -1, x -> x.burn(row, 0));
            add("burn(0, " + row + ")", -1, x -> x.burn(0, row));
            add("plank(" + row + ", 0, 0)", THROWN, x -> x.plank(row, 0, 0));
            add("plank(0, " + row + ", 0)", THROWN, x -> x.plank(0, row, 0));
            add("plank(0, 0, " + row + ")", THROWN, x -> x.plank(0, 0, row));
        }
        add("signer(0, 8)", THROWN, x -> x.signer(0, 8));
        add("load(0, 4)", THROWN, x -> x.load(0, 4));
        add("sign by the dead", 1, x -> x.sign(2, 0, 2));
        add("sign where a PLANK is", 2, x -> x.sign(0, 0, 1));
        add("sign of one who has 6", 3, x -> x.sign(3, 0, 2));
        add("burn a gap", 1, x -> x.burn(0, 2));
        add("breaks by the dead", 1, x -> x.breaks(2));
        add("holds by the dead", 1, x -> x.holds(2));
        add("holds at 9", 2, x -> x.holds(1));
        add("die again", 1, x -> x.die(2));
        add("cross of one that has FALLEN", 1, x -> x.cross(3));
        for (int n : new int[] {MIN, -1, 0, 61, MAX}) {
            add("days(" + n + ")", -1, x -> x.days(n));
            add("drawn(" + n + ", 1)", -1, x -> x.drawn(n, 1));
        }
    }

    private static void queries() {
        for (int wrong : new int[] {MIN, -1, 4, MAX}) {
            add("spare(" + wrong + ")", -1, x -> x.spare(wrong));
            add("path(" + wrong + ", 0)", -1, x -> x.path(wrong, 0));
            add("path(0, " + wrong + ")", -1, x -> x.path(0, wrong));
            add("limit(" + wrong + ")", -1, x -> x.limit(wrong));
            add("asks(" + wrong + ")", -1, x -> x.asks(wrong));
            add("asked(" + wrong + ", 0)", -1, x -> x.asked(wrong, 0));
            add("asked(0, " + wrong + ")", -1, x -> x.asked(0, wrong));
            add("cut(" + wrong + ")", -1, x -> x.cut(wrong));
            add("cutAt(" + wrong + ")", -1, x -> x.cutAt(wrong));
            add("orderAt(" + wrong + ")", -1, x -> x.orderAt(wrong));
            add("law(" + wrong + ", 1)", -1, x -> x.law(wrong, 1));
            add("lasts(" + wrong + ")", -1, x -> x.lasts(wrong));
            add("toll(" + wrong + ", 0)", -1, x -> x.toll(wrong, 0));
            add("toll(0, " + wrong + ")", -1, x -> x.toll(0, wrong));
            add("plate(" + wrong + ")", -1, x -> x.plate(wrong));
            add("odds(" + wrong + ", 1, 1)", -1, x -> x.odds(wrong, 1, 1));
            add("told(" + wrong + ")", -1, x -> x.told(wrong));
        }
        for (int n : new int[] {MIN, 0, 61, MAX}) {
            add("law(0, " + n + ")", -1, x -> x.law(0, n));
            add("odds(0, " + n + ", 1)", -1, x -> x.odds(0, n, 1));
        }
        add("asks of what can't be", -1, x -> x.asks(3));
        add("cut of more than 3", -1, x -> x.cut(2));
        add("spare without a PATH", -1, x -> x.spare(3));
        add("toll without a PATH", -1, x -> x.toll(0, 3));
        add("law by none", -1, x -> x.law(3, 1));
        add("byteAt(-1)", -1, x -> x.byteAt(-1));
        add("byteAt(99)", -1, x -> x.byteAt(99));
        add("now(7)", -1, x -> x.now(7));
        add("count(6)", -1, x -> x.count(6));
        add("said(-2)", -1, x -> x.said(-2));
        add("said(3)", -1, x -> x.said(3));
    }

    private static void texts() {
        for (int n : new int[] {MIN, -1, TAPE + 1, 940, MAX}) {
            add("end(" + n + ")", FALSE, x -> answer(x.end(n)));
        }
        for (int k : new int[] {MIN, -1, 2, MAX}) {
            add("image(" + k + ")", FALSE, x -> answer(x.image(k)));
            add("restore(" + k + ")", FALSE, x -> answer(x.restore(k)));
            add("book(" + k + ")", -1000, x -> x.book(k));
        }
        add("restore(0) of nothing", FALSE, x -> answer(x.restore(0)));
        add("restore(1) of nothing", FALSE, x -> answer(x.restore(1)));
    }
}
