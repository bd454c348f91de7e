import java.nio.charset.StandardCharsets;
import java.util.ArrayDeque;
import java.util.ArrayList;
import java.util.Arrays;
import java.util.Deque;
import java.util.HashMap;
import java.util.HashSet;
import java.util.LinkedHashMap;
import java.util.List;
import java.util.Map;
import java.util.NoSuchElementException;
import java.util.Set;
import java.util.function.IntPredicate;
import java.util.regex.Matcher;
import java.util.regex.Pattern;

/**
 * The document told a second time, as slowly and as plainly as can be: every PATH is walked, every set
 * and every order tried. RandomRunsTest holds SignedBridge against it.
 */
final class SlowBridge {
    static final int NONE = -1;
    private static final Set<String> KEYS = new HashSet<>(Arrays.asList(("rows signer forger heir lovers plank load "
            + "keeps signs breaks holds dies burns crosses day or and not dead forged loves follows on earnest planks "
            + "miles number").split(" ")));

    static final class Signer {
        String name;
        int earnest;
        int miles;
        boolean forger;
        int heir = NONE;
        int died = NONE;

        Signer copy() {
            Signer o = new Signer();
            o.name = name;
            o.earnest = earnest;
            o.miles = miles;
            o.forger = forger;
            o.heir = heir;
            o.died = died;
            return o;
        }
    }

    static final class Load {
        String name;
        int weight;
        int wide;
        boolean fallen;
        int crossed;

        Load copy() {
            Load o = new Load();
            o.name = name;
            o.weight = weight;
            o.wide = wide;
            o.fallen = fallen;
            o.crossed = crossed;
            return o;
        }
    }

    static final class Plank {
        final int signer;
        int singed;

        Plank(int signer, int singed) {
            this.signer = signer;
            this.singed = singed;
        }
    }

    static final class World {
        int rows = 4;
        int keeps = 5;
        int day;
        int burnt;
        List<Signer> signers = new ArrayList<>();
        List<Load> loads = new ArrayList<>();
        List<int[]> lovers = new ArrayList<>();
        Plank[][] planks = new Plank[12][3];

        World copy() {
            World o = new World();
            o.rows = rows;
            o.keeps = keeps;
            o.day = day;
            o.burnt = burnt;
            for (Signer s : signers) {
                o.signers.add(s.copy());
            }
            for (Load l : loads) {
                o.loads.add(l.copy());
            }
            o.lovers.addAll(lovers);
            for (int r = 0; r < 12; r++) {
                for (int k = 0; k < 3; k++) {
                    Plank p = planks[r][k];
                    o.planks[r][k] = p == null ? null : new Plank(p.signer, p.singed);
                }
            }
            return o;
        }

        int held(int s) {
            int n = 0;
            for (Plank[] row : planks) {
                for (Plank p : row) {
                    if (p != null && p.signer == s) {
                        n++;
                    }
                }
            }
            return n;
        }

        boolean inLove(int a, int b) {
            for (int[] pair : lovers) {
                if (pair[0] == a && pair[1] == b || pair[0] == b && pair[1] == a) {
                    return true;
                }
            }
            return false;
        }

        int bears(int r, int k) {
            Plank p = planks[r][k];
            if (p == null || signers.get(p.signer).forger) {
                return 0;
            }
            int sum = 10 * signers.get(p.signer).earnest;
            for (int j = 0; j < 3; j++) {
                if (Math.abs(j - k) == 1 && planks[r][j] != null && inLove(p.signer, planks[r][j].signer)) {
                    sum += 5;
                }
            }
            sum -= 5 * p.singed;
            return sum < 0 ? 0 : sum;
        }

        /** NONE: too few planks there. */
        int bearsFrom(int r, int k, int wide) {
            if (k + wide > 3) {
                return NONE;
            }
            int sum = 0;
            for (int j = k; j < k + wide; j++) {
                if (planks[r][j] == null) {
                    return NONE;
                }
                sum += bears(r, j);
            }
            return sum;
        }

        /** What is to spare in a row at a step (3: a jump); NONE: it can't. */
        int spareAt(Load l, int r, int step) {
            if (step == 3) {
                return l.weight <= 9 ? 999 : NONE;
            }
            int b = bearsFrom(r, step, l.wide);
            return b < l.weight ? NONE : b - l.weight;
        }

        static boolean follows(int before, int step) {
            if (before == NONE) {
                return true;
            }
            if (before == 3) {
                return step != 3;
            }
            return step == 3 || Math.abs(before - step) <= 1;
        }

        boolean canGo(Load l, int r, int end, int before) {
            if (r == end) {
                return true;
            }
            for (int step = 0; step < 4; step++) {
                if (follows(before, step) && spareAt(l, r, step) != NONE && canGo(l, r + 1, end, step)) {
                    return true;
                }
            }
            return false;
        }

        boolean hasPath(Load l) {
            return canGo(l, 0, rows, NONE);
        }

        boolean hasPath(int l) {
            return hasPath(loads.get(l));
        }

        int sign(int s, int r, int k) {
            if (signers.get(s).died != NONE) {
                return 1;
            }
            if (planks[r][k] != null) {
                return 2;
            }
            if (held(s) >= 6) {
                return 3;
            }
            planks[r][k] = new Plank(s, 0);
            return 0;
        }

        int burn(int r, int k) {
            if (planks[r][k] == null) {
                return 1;
            }
            planks[r][k] = null;
            burnt++;
            for (int j = 0; j < 3; j++) {
                if (Math.abs(j - k) == 1 && planks[r][j] != null) {
                    planks[r][j].singed = Math.min(3, planks[r][j].singed + 1);
                }
            }
            return 0;
        }

        int breaks(int s) {
            if (signers.get(s).died != NONE) {
                return 1;
            }
            signers.get(s).earnest = signers.get(s).earnest >> 1;
            return 0;
        }

        int holds(int s) {
            if (signers.get(s).died != NONE) {
                return 1;
            }
            if (signers.get(s).earnest == 9) {
                return 2;
            }
            signers.get(s).earnest++;
            return 0;
        }

        int die(int s) {
            if (signers.get(s).died != NONE) {
                return 1;
            }
            signers.get(s).died = day;
            return 0;
        }

        int cross(int n) {
            Load l = loads.get(n);
            if (l.fallen) {
                return 1;
            }
            if (hasPath(l)) {
                l.crossed++;
                return 0;
            }
            l.fallen = true;
            int r = 0;
            while (canGo(l, 0, r + 1, NONE)) {
                r++;
            }
            int at = NONE;
            for (int k = 0; k < 3; k++) {
                int b = bearsFrom(r, k, l.wide);
                if (b != NONE && (at == NONE || b > bearsFrom(r, at, l.wide))) {
                    at = k;
                }
            }
            for (int j = at; at != NONE && j < at + l.wide; j++) {
                planks[r][j] = null;
            }
            return 2;
        }

        boolean passDay() {
            if (day == 400) {
                return false;
            }
            for (int s = 0; s < signers.size(); s++) {
                Signer dead = signers.get(s);
                if (dead.died == NONE || day - dead.died != keeps) {
                    continue;
                }
                for (int p = 0; p < 36; p++) {
                    Plank plank = planks[p / 3][p % 3];
                    if (plank == null || plank.signer != s) {
                        continue;
                    }
                    int heir = dead.heir;
                    boolean takes = heir != NONE && signers.get(heir).died == NONE && held(heir) < 6;
                    planks[p / 3][p % 3] = takes ? new Plank(heir, plank.singed) : null;
                }
            }
            day++;
            return true;
        }

        int drawDays(int n, int seed) {
            int[] x = {seed};
            int went = 0;
            for (; went < n && day < 400; went++) {
                for (int s = 0; s < signers.size(); s++) {
                    int d = draw(x, 20);
                    if (d == 0) {
                        breaks(s);
                    } else if (d == 1) {
                        holds(s);
                    } else if (d == 2) {
                        if (draw(x, 5) == 0) {
                            die(s);
                        }
                    } else if (d == 3) {
                        int p = draw(x, 3 * rows);
                        sign(s, p / 3, p % 3);
                    }
                }
                for (int l = 0; l < loads.size(); l++) {
                    if (draw(x, 4) == 0 && !loads.get(l).fallen) {
                        cross(l);
                    }
                }
                passDay();
            }
            return went;
        }

        static int draw(int[] x, int n) {
            x[0] = (int) ((x[0] * 1103515245L + 12345L) & 0xffffffffL);
            return (int) (((x[0] & 0xffffffffL) >> 8) % n);
        }
    }

    static final class Fault extends Exception {
        private static final long serialVersionUID = 1L;
        final int kind;
        final int at;

        Fault(int kind, int at) {
            this.kind = kind;
            this.at = at;
        }
    }

    record Token(String text, int at) {
        boolean isWord() {
            return text.matches("[a-z]{1,7}");
        }

        boolean isName() {
            return isWord() && !KEYS.contains(text);
        }

        boolean isNumber() {
            return text.matches("[0-9]{1,3}");
        }

        boolean isEnd() {
            return text.isEmpty();
        }
    }

    private static final Pattern PIECE = Pattern.compile("[a-z0-9]+|[^a-z0-9 \\n]", Pattern.DOTALL);

    static final class Reader {
        final List<Token> tokens = new ArrayList<>();
        final boolean tooLong;
        int i;

        Reader(byte[] bytes, int most) {
            String text = new String(bytes, StandardCharsets.ISO_8859_1);
            tooLong = bytes.length > most;
            Matcher m = PIECE.matcher(text);
            while (m.find() && m.start() < most) {
                tokens.add(new Token(m.group(), m.start()));
            }
            tokens.add(new Token("", tooLong ? most : bytes.length));
        }

        Token peek() {
            return tokens.get(i);
        }

        Token next() {
            Token t = tokens.get(i);
            if (!t.isEnd()) {
                i++;
            }
            return t;
        }

        boolean sees(String text) {
            return peek().text.equals(text);
        }

        void expect(String text) throws Fault {
            Token t = next();
            if (!t.text.equals(text)) {
                throw new Fault(1, t.at);
            }
        }

        int number(int low, int high) throws Fault {
            Token t = next();
            if (!t.isNumber()) {
                throw new Fault(1, t.at);
            }
            int n = Integer.parseInt(t.text);
            if (n < low || n > high) {
                throw new Fault(2, t.at);
            }
            return n;
        }

        Token name() throws Fault {
            Token t = next();
            if (!t.isName()) {
                throw new Fault(1, t.at);
            }
            return t;
        }

        void finish() throws Fault {
            if (!peek().isEnd() || tooLong) {
                throw new Fault(1, peek().at);
            }
        }
    }

    // ---- the object ----

    private byte[] tape = new byte[0];
    private World world = new World();
    private IntPredicate said;
    private final Map<Integer, Object[]> images = new HashMap<>();
    private final Deque<World> past = new ArrayDeque<>();
    private int fault;
    private int[] asked;
    private List<Integer> cut = new ArrayList<>();
    private List<Integer> order = new ArrayList<>();
    private int surely = NONE;
    private int tells = NONE;
    private String plate = "";
    private int[] told;
    private int ones;

    int feed(int a, int b, int c, int d, int e) {
        if (tape.length + 20 > 940) {
            return NONE;
        }
        byte[] more = Arrays.copyOf(tape, tape.length + 20);
        java.nio.ByteBuffer.wrap(more, tape.length, 20).putInt(a).putInt(b).putInt(c).putInt(d).putInt(e);
        tape = more;
        return tape.length;
    }

    boolean end(int n) {
        if (n < 0 || n > tape.length) {
            return false;
        }
        tape = Arrays.copyOf(tape, n);
        return true;
    }

    private Reader takeTape(int most) {
        Reader reader = new Reader(tape, most);
        tape = new byte[0];
        return reader;
    }

    int bridge() {
        Reader in = takeTape(900);
        fault = 0;
        World w = new World();
        int lines = 0;
        try {
            Set<String> once = new HashSet<>();
            while (!in.peek().isEnd()) {
                bridgeLine(in, w, once);
                in.expect(";");
                lines++;
            }
            in.finish();
        } catch (Fault f) {
            fault = f.kind;
            return -1 - f.at;
        }
        world = w;
        said = null;
        past.clear();
        return lines;
    }

    private static int signerOf(World w, Token t) throws Fault {
        for (int s = 0; s < w.signers.size(); s++) {
            if (w.signers.get(s).name.equals(t.text)) {
                return s;
            }
        }
        throw new Fault(3, t.at);
    }

    private static int loadOf(World w, String name) {
        for (int l = 0; l < w.loads.size(); l++) {
            if (w.loads.get(l).name.equals(name)) {
                return l;
            }
        }
        return NONE;
    }

    private static String freshName(World w, Reader in) throws Fault {
        Token t = in.name();
        boolean known = loadOf(w, t.text) != NONE;
        for (Signer s : w.signers) {
            known |= s.name.equals(t.text);
        }
        if (known) {
            throw new Fault(3, t.at);
        }
        return t.text;
    }

    private static void bridgeLine(Reader in, World w, Set<String> once) throws Fault {
        Token head = in.next();
        switch (head.text) {
            case "rows" -> {
                if (!once.add("rows") || once.contains("plank")) {
                    throw new Fault(3, head.at);
                }
                w.rows = in.number(1, 12);
            }
            case "keeps" -> {
                if (!once.add("keeps")) {
                    throw new Fault(3, head.at);
                }
                w.keeps = in.number(0, 30);
            }
            case "signer" -> {
                if (w.signers.size() == 10) {
                    throw new Fault(4, head.at);
                }
                Signer s = new Signer();
                s.name = freshName(w, in);
                s.earnest = in.number(0, 9);
                s.miles = in.number(1, 9);
                if (in.sees("forger")) {
                    in.next();
                    s.forger = true;
                }
                w.signers.add(s);
            }
            case "load" -> {
                if (w.loads.size() == 6) {
                    throw new Fault(4, head.at);
                }
                Load l = new Load();
                l.name = freshName(w, in);
                l.weight = in.number(1, 300);
                l.wide = in.number(1, 3);
                w.loads.add(l);
            }
            case "heir" -> {
                Token a = in.name();
                int first = signerOf(w, a);
                if (w.signers.get(first).heir != NONE) {
                    throw new Fault(3, a.at);
                }
                Token b = in.name();
                int second = signerOf(w, b);
                if (first == second) {
                    throw new Fault(3, b.at);
                }
                w.signers.get(first).heir = second;
            }
            case "lovers" -> {
                if (w.lovers.size() == 8) {
                    throw new Fault(4, head.at);
                }
                int first = signerOf(w, in.name());
                Token b = in.name();
                int second = signerOf(w, b);
                if (first == second || w.inLove(first, second)) {
                    throw new Fault(3, b.at);
                }
                w.lovers.add(new int[] {first, second});
            }
            case "plank" -> {
                Token a = in.name();
                int s = signerOf(w, a);
                if (w.held(s) == 6) {
                    throw new Fault(3, a.at);
                }
                int row = in.number(0, w.rows - 1);
                Token t = in.peek();
                int k = in.number(0, 2);
                if (w.planks[row][k] != null) {
                    throw new Fault(3, t.at);
                }
                w.planks[row][k] = new Plank(s, 0);
                once.add("plank");
            }
            default -> throw new Fault(1, head.at);
        }
    }

    int fault() {
        return fault;
    }

    private boolean noSigner(int s) {
        return s < 0 || s >= world.signers.size();
    }

    private boolean noLoad(int l) {
        return l < 0 || l >= world.loads.size();
    }

    private boolean noPlace(int row, int k) {
        return row < 0 || row >= world.rows || k < 0 || k > 2;
    }

    private static int bit(boolean b) {
        return b ? 1 : 0;
    }

    int signer(int s, int what) {
        if (noSigner(s) || what < 0 || what > 7) {
            throw new NoSuchElementException();
        }
        Signer x = world.signers.get(s);
        int loves = 0;
        for (int o = 0; o < world.signers.size(); o++) {
            loves |= bit(world.inLove(s, o)) << o;
        }
        return new int[] {x.earnest, x.miles, bit(x.forger), x.heir, loves, bit(x.died != NONE), world.held(s),
            x.died}[what];
    }

    int plank(int row, int k, int what) {
        if (noPlace(row, k) || what < 0 || what > 2) {
            throw new NoSuchElementException();
        }
        Plank p = world.planks[row][k];
        if (p == null) {
            return what == 0 ? NONE : 0;
        }
        return new int[] {p.signer, world.bears(row, k), p.singed}[what];
    }

    int load(int l, int what) {
        if (noLoad(l) || what < 0 || what > 3) {
            throw new NoSuchElementException();
        }
        Load x = world.loads.get(l);
        return new int[] {x.weight, x.wide, bit(x.fallen), x.crossed}[what];
    }

    int now(int what) {
        int dead = 0;
        int fallen = 0;
        int crossed = 0;
        int planks = 0;
        int bears = 0;
        for (int s = 0; s < world.signers.size(); s++) {
            dead |= bit(world.signers.get(s).died != NONE) << s;
        }
        for (int l = 0; l < world.loads.size(); l++) {
            fallen |= bit(world.loads.get(l).fallen) << l;
            crossed += world.loads.get(l).crossed;
        }
        for (int r = 0; r < world.rows; r++) {
            for (int k = 0; k < 3; k++) {
                planks += bit(world.planks[r][k] != null);
                bears += world.bears(r, k);
            }
        }
        int[] all = {world.day, dead, planks, fallen, crossed, world.burnt, bears};
        return what < 0 || what >= all.length ? NONE : all[what];
    }

    private int act(World before, int why) {
        if (why == 0) {
            keep(before);
        }
        return why;
    }

    private void keep(World before) {
        past.addLast(before);
        if (past.size() > 8) {
            past.removeFirst();
        }
    }

    int sign(int s, int row, int k) {
        return noSigner(s) || noPlace(row, k) ? NONE : act(world.copy(), world.sign(s, row, k));
    }

    int burn(int row, int k) {
        return noPlace(row, k) ? NONE : act(world.copy(), world.burn(row, k));
    }

    int breaks(int s) {
        return noSigner(s) ? NONE : act(world.copy(), world.breaks(s));
    }

    int holds(int s) {
        return noSigner(s) ? NONE : act(world.copy(), world.holds(s));
    }

    int die(int s) {
        return noSigner(s) ? NONE : act(world.copy(), world.die(s));
    }

    int cross(int l) {
        if (noLoad(l)) {
            return NONE;
        }
        World before = world.copy();
        int how = world.cross(l);
        if (how != 1) {
            keep(before);
        }
        return how;
    }

    int days(int n) {
        if (n < 1 || n > 60) {
            return NONE;
        }
        World before = world.copy();
        int went = 0;
        while (went < n && world.passDay()) {
            went++;
        }
        if (went > 0) {
            keep(before);
        }
        return went;
    }

    int undo() {
        if (past.isEmpty()) {
            return NONE;
        }
        world = past.removeLast();
        return past.size();
    }

    /** All PATHS are walked in the order of their steps; the first of the safest is kept. */
    private static final class Walk {
        int best = NONE;
        int[] steps;

        void go(World w, Load l, int row, int[] taken, int least) {
            if (row == w.rows) {
                if (least > best) {
                    best = least;
                    steps = taken.clone();
                }
                return;
            }
            for (int step = 0; step < 4; step++) {
                int spare = w.spareAt(l, row, step);
                if (spare != NONE && World.follows(row == 0 ? NONE : taken[row - 1], step)) {
                    taken[row] = step;
                    go(w, l, row + 1, taken, Math.min(least, spare));
                }
            }
        }
    }

    private Walk walk(int l) {
        Walk walk = new Walk();
        walk.go(world, world.loads.get(l), 0, new int[12], Integer.MAX_VALUE);
        return walk;
    }

    int spare(int l) {
        return noLoad(l) ? NONE : walk(l).best;
    }

    int path(int l, int row) {
        if (noLoad(l) || noPlace(row, 0)) {
            return NONE;
        }
        Walk walk = walk(l);
        return walk.best == NONE ? NONE : walk.steps[row];
    }

    int limit(int wide) {
        if (wide < 1 || wide > 3) {
            return NONE;
        }
        for (int weight = 300; weight > 9; weight--) {
            Load l = new Load();
            l.wide = wide;
            l.weight = weight;
            if (world.hasPath(l)) {
                return weight;
            }
        }
        for (int weight = 9; weight > 0; weight--) {
            if (stands(wide, weight, 0, NONE)) {
                return weight;
            }
        }
        return 0;
    }

    private boolean stands(int wide, int weight, int row, int before) {
        if (row == world.rows) {
            return true;
        }
        for (int k = 0; k < 3; k++) {
            if (world.bearsFrom(row, k, wide) >= weight && (before == NONE || Math.abs(before - k) <= 1)
                    && stands(wide, weight, row + 1, k)) {
                return true;
            }
        }
        return false;
    }

    /** Every way to step and to sign, in the order in which the first of like ones is told. */
    private static final class Asking {
        int best = Integer.MAX_VALUE;
        int[] signers;
        final Load load;
        final World w;

        Asking(Load load, World w) {
            this.load = load;
            this.w = w;
        }

        void go(int row, int before, int miles, int[] asked) {
            if (miles >= best) {
                return;
            }
            if (row == w.rows) {
                best = miles;
                signers = asked.clone();
                return;
            }
            for (int step = 0; step < 4; step++) {
                if (!World.follows(before, step)) {
                    continue;
                }
                if (step == 3) {
                    if (load.weight <= 9) {
                        go(row + 1, 3, miles, asked);
                    }
                } else if (step + load.wide <= 3) {
                    fill(row, step, step, miles, asked);
                }
            }
        }

        private void fill(int row, int k, int at, int miles, int[] asked) {
            if (at == k + load.wide) {
                if (w.bearsFrom(row, k, load.wide) >= load.weight) {
                    go(row + 1, k, miles, asked);
                }
                return;
            }
            if (w.planks[row][at] != null) {
                fill(row, k, at + 1, miles, asked);
                return;
            }
            for (int s = 0; s < w.signers.size(); s++) {
                if (w.signers.get(s).died == NONE) {
                    w.planks[row][at] = new Plank(s, 0);
                    asked[3 * row + at] = s;
                    fill(row, k, at + 1, miles + w.signers.get(s).miles, asked);
                }
            }
            w.planks[row][at] = null;
            asked[3 * row + at] = NONE;
        }
    }

    /** For more ROWS or SIGNERS than Asking can try: "of each ROW for itself", then every way to step. */
    private final class RowAsking {
        int best = Integer.MAX_VALUE;
        int[] steps;
        final int[] miles = new int[36];
        final int[][] signers = new int[36][];
        final Load load;

        RowAsking(Load load) {
            this.load = load;
            for (int p = 0; p < 3 * world.rows; p++) {
                miles[p] = NONE;
                if (p % 3 + load.wide <= 3) {
                    price(p / 3, p % 3);
                }
            }
        }

        private void price(int row, int k) {
            World alone = world.copy();
            alone.rows = 1;
            alone.planks = new Plank[12][3];
            alone.planks[0] = world.copy().planks[row];
            Asking one = new Asking(load, alone);
            int[] none = new int[36];
            Arrays.fill(none, NONE);
            one.fill(0, k, k, 0, none);
            if (one.signers != null) {
                miles[3 * row + k] = one.best;
                signers[3 * row + k] = one.signers;
            }
        }

        void go(int row, int sofar, int[] taken) {
            if (sofar >= best) {
                return;
            }
            if (row == world.rows) {
                best = sofar;
                steps = taken.clone();
                return;
            }
            for (int step = 0; step < 4; step++) {
                int more = step == 3 ? load.weight <= 9 ? 0 : NONE : miles[3 * row + step];
                if (more != NONE && World.follows(row == 0 ? NONE : taken[row - 1], step)) {
                    taken[row] = step;
                    go(row + 1, sofar + more, taken);
                }
            }
        }

        int[] whoSigns() {
            int[] who = new int[36];
            Arrays.fill(who, NONE);
            for (int row = 0; row < world.rows; row++) {
                if (steps[row] != 3) {
                    System.arraycopy(signers[3 * row + steps[row]], 0, who, 3 * row, 3);
                }
            }
            return who;
        }
    }

    int asks(int l) {
        if (noLoad(l)) {
            return NONE;
        }
        if (world.rows > 4 || world.signers.size() > 5) {
            return asksByRows(world.loads.get(l));
        }
        Asking asking = new Asking(world.loads.get(l), world.copy());
        int[] none = new int[36];
        Arrays.fill(none, NONE);
        asking.go(0, NONE, 0, none);
        if (asking.signers == null) {
            return NONE;
        }
        asked = asking.signers;
        return asking.best;
    }

    private int asksByRows(Load load) {
        RowAsking asking = new RowAsking(load);
        asking.go(0, 0, new int[12]);
        if (asking.steps == null) {
            return NONE;
        }
        asked = asking.whoSigns();
        return asking.best;
    }

    int asked(int row, int k) {
        return asked == null || noPlace(row, k) ? NONE : asked[3 * row + k];
    }

    private static int able(World w) {
        int n = 0;
        for (Load l : w.loads) {
            n += bit(!l.fallen && w.hasPath(l));
        }
        return n;
    }

    int keystone() {
        Map<Integer, Integer> left = new LinkedHashMap<>();
        for (int s = 0; s < world.signers.size(); s++) {
            World w = world.copy();
            for (Plank[] row : w.planks) {
                for (int k = 0; k < 3; k++) {
                    if (row[k] != null && row[k].signer == s) {
                        row[k] = null;
                    }
                }
            }
            left.put(s, able(w));
        }
        int first = NONE;
        for (int s : left.keySet()) {
            if (first == NONE || left.get(s) < left.get(first)) {
                first = s;
            }
        }
        return first;
    }

    int able() {
        return able(world);
    }

    int cut(int l) {
        if (noLoad(l)) {
            return NONE;
        }
        for (int size = 0; size <= 3; size++) {
            List<Integer> found = cutOf(world.copy(), l, size, 0);
            if (found != null) {
                cut = found;
                return size;
            }
        }
        return NONE;
    }

    private static List<Integer> cutOf(World w, int l, int size, int from) {
        if (size == 0) {
            return w.hasPath(l) ? null : new ArrayList<>();
        }
        for (int p = from; p < 3 * w.rows; p++) {
            Plank plank = w.planks[p / 3][p % 3];
            if (plank == null) {
                continue;
            }
            w.planks[p / 3][p % 3] = null;
            List<Integer> rest = cutOf(w, l, size - 1, p + 1);
            w.planks[p / 3][p % 3] = plank;
            if (rest != null) {
                rest.add(0, p);
                return rest;
            }
        }
        return null;
    }

    int cutAt(int i) {
        return i < 0 || i >= cut.size() ? NONE : cut.get(i);
    }

    private int orderMost;

    int order() {
        orderMost = NONE;
        tryOrders(world.copy(), new ArrayList<>(), 0);
        return orderMost;
    }

    private void tryOrders(World w, List<Integer> sofar, int crossed) {
        boolean more = false;
        for (int l = 0; l < w.loads.size(); l++) {
            if (world.loads.get(l).fallen || sofar.contains(l)) {
                continue;
            }
            more = true;
            World then = w.copy();
            int how = then.cross(l);
            List<Integer> next = new ArrayList<>(sofar);
            next.add(l);
            tryOrders(then, next, crossed + bit(how == 0));
        }
        if (!more && crossed > orderMost) {
            orderMost = crossed;
            order = sofar;
        }
    }

    int orderAt(int i) {
        return i < 0 || i >= order.size() ? NONE : order.get(i);
    }

    int forgers() {
        byte[] pairs = tape;
        tape = new byte[0];
        if (pairs.length == 0 || pairs.length > 12 || pairs.length % 2 == 1) {
            return NONE;
        }
        for (int i = 0; i < pairs.length; i += 2) {
            if (noLoad(pairs[i] & 255) || pairs[i + 1] != 0 && pairs[i + 1] != 1) {
                return NONE;
            }
        }
        List<World> good = new ArrayList<>();
        int sure = NONE;
        for (int set = 0; set < 1 << world.signers.size(); set++) {
            World w = world.copy();
            for (int s = 0; s < w.signers.size(); s++) {
                w.signers.get(s).forger = (set >> s & 1) == 1;
            }
            boolean all = true;
            for (int i = 0; i < pairs.length; i += 2) {
                all &= w.hasPath(pairs[i]) == (pairs[i + 1] == 1);
            }
            if (all) {
                good.add(w);
                sure &= set;
            }
        }
        if (!good.isEmpty()) {
            surely = sure & (1 << world.signers.size()) - 1;
            tells = telling(good);
        }
        return good.size();
    }

    private int telling(List<World> good) {
        int first = NONE;
        int least = 0;
        for (int l = 0; l < world.loads.size(); l++) {
            int yes = 0;
            for (World w : good) {
                yes += bit(w.hasPath(l));
            }
            int far = Math.abs(yes - (good.size() - yes));
            if (first == NONE || far < least) {
                first = l;
                least = far;
            }
        }
        return first;
    }

    int surely() {
        return surely;
    }

    int tells() {
        return tells;
    }

    int law(int l, int n) {
        if (noLoad(l) || n < 1 || n > 60) {
            return NONE;
        }
        for (int keeps = 0; keeps <= 30; keeps++) {
            World w = world.copy();
            w.keeps = keeps;
            boolean good = true;
            for (int d = 0; d < n; d++) {
                good &= w.hasPath(l);
                w.passDay();
            }
            if (good) {
                return keeps;
            }
        }
        return NONE;
    }

    int lasts(int l) {
        if (noLoad(l)) {
            return NONE;
        }
        World w = world.copy();
        for (int d = 0; d <= 200; d++) {
            if (!w.hasPath(l)) {
                return w.day;
            }
            if (!w.passDay()) {
                return NONE;
            }
        }
        return NONE;
    }

    int toll(int s, int l) {
        if (noSigner(s) || noLoad(l)) {
            return NONE;
        }
        Walk walk = walk(l);
        if (walk.best == NONE) {
            return NONE;
        }
        int n = 0;
        for (int r = 0; r < world.rows; r++) {
            for (int k = 0; k < 3; k++) {
                boolean under = walk.steps[r] != 3 && k >= walk.steps[r]
                        && k < walk.steps[r] + world.loads.get(l).wide;
                n += bit(under && world.planks[r][k].signer == s);
            }
        }
        return n;
    }

    int plate(int row) {
        if (noPlace(row, 0)) {
            return NONE;
        }
        List<String> names = new ArrayList<>();
        for (Plank p : world.planks[row]) {
            names.add(p == null ? "gap" : world.signers.get(p.signer).name);
        }
        plate = String.join("-", names);
        return plate.length();
    }

    int byteAt(int i) {
        return i < 0 || i >= plate.length() ? NONE : plate.charAt(i);
    }

    int drawn(int n, int seed) {
        if (n < 1 || n > 60 || world.signers.isEmpty()) {
            return NONE;
        }
        World before = world.copy();
        int went = world.drawDays(n, seed);
        if (went > 0) {
            keep(before);
        }
        return went;
    }

    int odds(int l, int n, int seed) {
        if (noLoad(l) || n < 1 || n > 30 || world.signers.isEmpty()) {
            return NONE;
        }
        int good = 0;
        for (int i = 0; i < n; i++) {
            World w = world.copy();
            w.drawDays(20, seed + i);
            good += bit(w.hasPath(l));
        }
        return good;
    }

    private interface Deed {
        int tryOn(World w);
    }

    int book(int lives) {
        if (lives != 0 && lives != 1) {
            return -1000;
        }
        Reader in = takeTape(400);
        fault = 0;
        List<Deed> deeds = new ArrayList<>();
        try {
            while (!in.peek().isEnd()) {
                deeds.add(bookLine(in, deeds.size()));
                in.expect(";");
            }
            in.finish();
        } catch (Fault f) {
            fault = f.kind;
            return -2 - f.at;
        }
        World before = world.copy();
        int wrong = NONE;
        int why = 0;
        for (int i = 0; i < deeds.size() && wrong == NONE; i++) {
            why = deeds.get(i).tryOn(world);
            if (why != 0) {
                wrong = i;
            }
        }
        told = new int[] {why, wrong == NONE ? deeds.size() : wrong, now(0), now(3)};
        if (lives == 1) {
            keep(before);
        } else {
            world = before;
        }
        return wrong;
    }

    private static int more(int tens, int why) {
        return why == 0 ? 0 : tens + why;
    }

    private Deed bookLine(Reader in, int before) throws Fault {
        Token head = in.next();
        boolean key = head.text.equals("burns") || head.text.equals("day");
        if (!key && !head.isName()) {
            throw new Fault(1, head.at);
        }
        int l = loadOf(world, head.text);
        int s = key || l != NONE ? NONE : signerOf(world, head);
        if (before == 40) {
            throw new Fault(4, head.at);
        }
        if (head.text.equals("day")) {
            int n = in.number(1, 60);
            return w -> {
                if (w.day + n > 400) {
                    return 61;
                }
                for (int i = 0; i < n; i++) {
                    w.passDay();
                }
                return 0;
            };
        }
        if (head.text.equals("burns")) {
            int row = in.number(0, 11);
            int k = in.number(0, 2);
            return w -> row >= w.rows ? 19 : more(10, w.burn(row, k));
        }
        if (l != NONE) {
            in.expect("crosses");
            return w -> w.cross(l) == 1 ? 51 : 0;
        }
        Token deed = in.next();
        switch (deed.text) {
            case "signs": {
                int row = in.number(0, 11);
                int k = in.number(0, 2);
                return w -> row >= w.rows ? 9 : w.sign(s, row, k);
            }
            case "breaks":
                return w -> more(20, w.breaks(s));
            case "holds":
                return w -> more(30, w.holds(s));
            case "dies":
                return w -> more(40, w.die(s));
            default:
                throw new Fault(1, deed.at);
        }
    }

    int told(int what) {
        return told == null || what < 0 || what > 3 ? NONE : told[what];
    }

    int sentence() {
        Reader in = takeTape(200);
        fault = 0;
        ones = 0;
        try {
            IntPredicate all = cond(in, 1);
            in.finish();
            said = all;
            return ones;
        } catch (Fault f) {
            fault = f.kind;
            return -1 - f.at;
        }
    }

    private IntPredicate cond(Reader in, int depth) throws Fault {
        IntPredicate p = all(in, depth);
        while (in.sees("or")) {
            in.next();
            p = p.or(all(in, depth));
        }
        return p;
    }

    private IntPredicate all(Reader in, int depth) throws Fault {
        IntPredicate p = one(in, depth);
        while (in.sees("and")) {
            in.next();
            p = p.and(one(in, depth));
        }
        return p;
    }

    private IntPredicate one(Reader in, int depth) throws Fault {
        Token head = in.next();
        if (!Arrays.asList("not", "(", "dead", "forged", "loves", "follows", "on", "earnest", "planks", "miles",
                "number").contains(head.text)) {
            throw new Fault(1, head.at);
        }
        if (ones == 20 || depth == 9) {
            throw new Fault(4, head.at);
        }
        ones++;
        switch (head.text) {
            case "not":
                return one(in, depth + 1).negate();
            case "(": {
                IntPredicate p = cond(in, depth + 1);
                in.expect(")");
                return p;
            }
            case "dead":
                return s -> world.signers.get(s).died != NONE;
            case "forged":
                return s -> world.signers.get(s).forger;
            case "loves": {
                int o = signerOf(world, in.name());
                return s -> world.inLove(s, o);
            }
            case "follows": {
                int o = signerOf(world, in.name());
                return s -> world.signers.get(o).heir == s;
            }
            case "on": {
                int row = in.number(0, 11);
                return s -> {
                    for (Plank p : world.planks[row]) {
                        if (p != null && p.signer == s) {
                            return true;
                        }
                    }
                    return false;
                };
            }
            default: {
                Token sign = in.next();
                if (!"<=>".contains(sign.text) || sign.isEnd()) {
                    throw new Fault(1, sign.at);
                }
                int n = in.number(0, 999);
                return s -> {
                    int has = switch (head.text) {
                        case "earnest" -> world.signers.get(s).earnest;
                        case "planks" -> world.held(s);
                        case "miles" -> world.signers.get(s).miles;
                        default -> s;
                    };
                    return sign.text.equals("<") ? has < n : sign.text.equals("=") ? has == n : has > n;
                };
            }
        }
    }

    int said(int k) {
        if (said == null) {
            return NONE;
        }
        List<Integer> who = new ArrayList<>();
        for (int s = 0; s < world.signers.size(); s++) {
            if (said.test(s)) {
                who.add(s);
            }
        }
        if (k == NONE) {
            return who.size();
        }
        return k < 0 || k >= who.size() ? NONE : who.get(k);
    }

    boolean image(int k) {
        if (k != 0 && k != 1) {
            return false;
        }
        images.put(k, new Object[] {world.copy(), said});
        return true;
    }

    boolean restore(int k) {
        if (!images.containsKey(k)) {
            return false;
        }
        world = ((World) images.get(k)[0]).copy();
        said = (IntPredicate) images.get(k)[1];
        past.clear();
        return true;
    }

    int count(int what) {
        int[] all = {world.rows, world.signers.size(), world.loads.size(), world.lovers.size(), world.keeps,
            tape.length};
        return what < 0 || what >= all.length ? NONE : all[what];
    }
}
