import java.util.Arrays;
import java.util.NoSuchElementException;

/**
 * A bridge of signatures: rows of three places, planks that are names given in earnest,
 * signers and loads. The document's words (BEARS, STANDS, PATH, SPARE, ..) are used as it uses them.
 */
public final class SignedBridge {
    public static final int NONE = -1;

    private static final int MOST_TAPE = 940;
    private static final int MOST_BRIDGE = 900;
    private static final int MOST_BOOK = 400;
    private static final int MOST_SENTENCE = 200;
    private static final int FEED = 20;
    private static final int MOST_ROWS = 12;
    private static final int ROW_PLACES = 3;
    private static final int ROW_SETS = 8;
    private static final int MOST_PLACES = 36;
    private static final int MOST_SIGNERS = 10;
    private static final int MOST_LOADS = 6;
    private static final int MOST_LOVERS = 8;
    private static final int MOST_HELD = 6;
    private static final int MOST_EARNEST = 9;
    private static final int MOST_SINGED = 3;
    private static final int MOST_WEIGHT = 300;
    private static final int MOST_KEEPS = 30;
    private static final int MOST_DAYS = 60;
    private static final int MOST_SEEDS = 30;
    private static final int MOST_LETTERS = 7;
    private static final int LAST_DAY = 400;
    private static final int MOST_UNDONE = 8;
    private static final int IMAGES = 2;
    private static final int NO_SUCH_LIVES = -1000;

    /* A step is what a LOAD does in a ROW: it STANDS at K 0 to 2, or it JUMPS. */
    private static final int STEPS = 4;
    private static final int JUMP = 3;
    private static final int JUMP_BIT = 8;
    private static final int ANY_STEP = 15;
    private static final int STEP_SETS = 16;
    private static final int MOST_STEPS = 48;
    private static final int LIGHT = 9;
    private static final int JUMP_SPARE = 999;
    /* By a set of steps, as bits: which steps may come in the next ROW. */
    private static final int[] OPEN = {0, 11, 15, 15, 14, 15, 15, 15, 7, 15, 15, 15, 15, 15, 15, 15};

    /* The WORDS that are no NAMES, eight signs each, in the order of their numbers below. */
    private static final String KEY_TEXT = "rows    signer  forger  heir    lovers  plank   load    keeps   signs   breaks  holds   dies    burns   crosses day     or      and     not     dead    forged  loves   follows on      earnest planks  miles   number  ";
    private static final int KEY_SIZE = 8;
    private static final int KEYS = 27;
    private static final int KEY_ROWS = 0;
    private static final int KEY_SIGNER = 1;
    private static final int KEY_FORGER = 2;
    private static final int KEY_HEIR = 3;
    private static final int KEY_LOVERS = 4;
    private static final int KEY_PLANK = 5;
    private static final int KEY_LOAD = 6;
    private static final int KEY_KEEPS = 7;
    private static final int KEY_SIGNS = 8;
    private static final int KEY_BREAKS = 9;
    private static final int KEY_HOLDS = 10;
    private static final int KEY_DIES = 11;
    private static final int KEY_BURNS = 12;
    private static final int KEY_CROSSES = 13;
    private static final int KEY_DAY = 14;
    private static final int KEY_OR = 15;
    private static final int KEY_AND = 16;
    private static final int KEY_NOT = 17;
    private static final int KEY_DEAD = 18;
    private static final int KEY_FORGED = 19;
    private static final int KEY_LOVES = 20;
    private static final int KEY_FOLLOWS = 21;
    private static final int KEY_ON = 22;
    private static final int KEY_EARNEST = 23;
    private static final int KEY_PLANKS = 24;
    private static final int KEY_MILES = 25;
    private static final int KEY_NUMBER = 26;

    /* Kinds of FAULTS. */
    private static final int CANT_COME = 1;
    private static final int BAD_NUMBER = 2;
    private static final int BAD_NAME = 3;
    private static final int TOO_MANY = 4;

    private final Tokens tokens = new Tokens();
    private final BridgeText bridgeText = new BridgeText();
    private final Plan plan = new Plan();
    private final State state = new State();
    private Sentence sentence = new Sentence();
    private Sentence sentenceDraft = new Sentence();
    private final Book book = new Book();
    private final Ways ways = new Ways();
    private final Asks asks = new Asks();
    private final Cut cut = new Cut();
    private final Forgers forgers = new Forgers();
    private final Forecast forecast = new Forecast();
    private final StringBuilder plate = new StringBuilder();
    /* One more than can be undone: the slot at pastNext is free for an act that may turn out not to be done. */
    private final State[] past = new State[MOST_UNDONE + 1];
    private int pastNext;
    private int pastCount;
    private final Plan[] imagePlans = new Plan[IMAGES];
    private final State[] imageStates = new State[IMAGES];
    private final Sentence[] imageSentences = new Sentence[IMAGES];
    private final boolean[] imageKept = new boolean[IMAGES];

    public SignedBridge() {
        for (int i = 0; i < past.length; i++) {
            past[i] = new State();
        }
        for (int k = 0; k < IMAGES; k++) {
            imagePlans[k] = new Plan();
            imageStates[k] = new State();
            imageSentences[k] = new Sentence();
        }
    }

    public int feed(int a, int b, int c, int d, int e) {
        if (tokens.length + FEED > MOST_TAPE) {
            return NONE;
        }
        tokens.put(a);
        tokens.put(b);
        tokens.put(c);
        tokens.put(d);
        tokens.put(e);
        return tokens.length;
    }

    public boolean end(int n) {
        if (n < 0 || n > tokens.length) {
            return false;
        }
        tokens.length = n;
        return true;
    }

    public int bridge() {
        boolean good = bridgeText.read(tokens);
        tokens.length = 0;
        if (!good) {
            return -1 - tokens.faultAt;
        }
        plan.copyOf(bridgeText.plan);
        state.begin(plan);
        sentence.forget();
        pastCount = 0;
        return bridgeText.lines;
    }

    public int fault() {
        return tokens.faultKind;
    }

    public int signer(int s, int what) throws NoSuchElementException {
        if (!isSigner(s)) {
            throw new NoSuchElementException();
        }
        switch (what) {
            case 0: return state.earnest[s];
            case 1: return plan.miles[s];
            case 2: return plan.forgers >> s & 1;
            case 3: return plan.heir[s];
            case 4: return plan.loves[s];
            case 5: return state.lives(s) ? 0 : 1;
            case 6: return state.held[s];
            case 7: return state.died[s];
            default: throw new NoSuchElementException();
        }
    }

    public int plank(int row, int k, int what) throws NoSuchElementException {
        if (!isPlace(row, k) || what < 0 || what > 2) {
            throw new NoSuchElementException();
        }
        int place = ROW_PLACES * row + k;
        if (what == 0) {
            return state.owner[place];
        }
        if (what == 1) {
            return Math.max(0, Ways.bearing(plan, state, plan.forgers, place));
        }
        return state.singed[place];
    }

    public int load(int l, int what) throws NoSuchElementException {
        if (!isLoad(l)) {
            throw new NoSuchElementException();
        }
        switch (what) {
            case 0: return plan.weight[l];
            case 1: return plan.wide[l];
            case 2: return state.fallen >> l & 1;
            case 3: return state.crossed[l];
            default: throw new NoSuchElementException();
        }
    }

    public int now(int what) {
        switch (what) {
            case 0: return state.day;
            case 1: return state.deadBits(plan);
            case 2: return state.countPlanks();
            case 3: return state.fallen;
            case 4: return state.countCrossings();
            case 5: return state.burnt;
            case 6: return ways.bearInAll(plan, state);
            default: return NONE;
        }
    }

    public int sign(int s, int row, int k) {
        if (!isSigner(s) || !isPlace(row, k)) {
            return NONE;
        }
        rememberState();
        return keepIfDone(state.putPlank(s, ROW_PLACES * row + k));
    }

    public int burn(int row, int k) {
        if (!isPlace(row, k)) {
            return NONE;
        }
        rememberState();
        return keepIfDone(state.burnPlank(ROW_PLACES * row + k));
    }

    public int breaks(int s) {
        if (!isSigner(s)) {
            return NONE;
        }
        rememberState();
        return keepIfDone(state.breakWord(s));
    }

    public int holds(int s) {
        if (!isSigner(s)) {
            return NONE;
        }
        rememberState();
        return keepIfDone(state.holdWord(s));
    }

    public int die(int s) {
        if (!isSigner(s)) {
            return NONE;
        }
        rememberState();
        return keepIfDone(state.endLife(s));
    }

    public int cross(int l) {
        if (!isLoad(l)) {
            return NONE;
        }
        rememberState();
        int how = ways.tryCrossing(plan, state, l);
        if (how != 1) {
            keepRemembered();
        }
        return how;
    }

    public int days(int n) {
        if (n < 1 || n > MOST_DAYS) {
            return NONE;
        }
        rememberState();
        int went = state.passDays(plan, n);
        if (went > 0) {
            keepRemembered();
        }
        return went;
    }

    public int undo() {
        if (pastCount == 0) {
            return NONE;
        }
        pastCount--;
        pastNext = pastNext == 0 ? MOST_UNDONE : pastNext - 1;
        state.copyOf(past[pastNext]);
        return pastCount;
    }

    public int spare(int l) {
        if (!isLoad(l)) {
            return NONE;
        }
        return ways.findSafest(plan, state, l);
    }

    public int path(int l, int row) {
        if (!isLoad(l) || !isRow(row) || ways.findSafest(plan, state, l) == NONE) {
            return NONE;
        }
        return ways.steps[row];
    }

    public int limit(int wide) {
        if (wide < 1 || wide > ROW_PLACES) {
            return NONE;
        }
        return ways.mostWeight(plan, state, wide);
    }

    public int asks(int l) {
        if (!isLoad(l)) {
            return NONE;
        }
        return asks.find(plan, state, l);
    }

    public int asked(int row, int k) {
        if (!isPlace(row, k)) {
            return NONE;
        }
        return asks.asked[ROW_PLACES * row + k];
    }

    public int keystone() {
        return forecast.findKeystone(plan, state, ways);
    }

    public int able() {
        return Integer.bitCount(ways.ableLoads(plan, state));
    }

    public int cut(int l) {
        if (!isLoad(l)) {
            return NONE;
        }
        return cut.find(plan, state, ways, l);
    }

    public int cutAt(int i) {
        if (i < 0 || i >= cut.size) {
            return NONE;
        }
        return cut.places[i];
    }

    public int order() {
        return forecast.findOrder(plan, state, ways);
    }

    public int orderAt(int i) {
        if (i < 0 || i >= forecast.orderSize) {
            return NONE;
        }
        return forecast.order[i];
    }

    public int forgers() {
        int sets = forgers.find(plan, state, ways, tokens);
        tokens.length = 0;
        return sets;
    }

    public int surely() {
        return forgers.common;
    }

    public int tells() {
        return forgers.telling;
    }

    public int law(int l, int n) {
        if (!isLoad(l) || n < 1 || n > MOST_DAYS) {
            return NONE;
        }
        return forecast.findLaw(plan, state, ways, l, n);
    }

    public int lasts(int l) {
        if (!isLoad(l)) {
            return NONE;
        }
        return forecast.findLast(plan, state, ways, l);
    }

    public int toll(int s, int l) {
        if (!isSigner(s) || !isLoad(l) || ways.findSafest(plan, state, l) == NONE) {
            return NONE;
        }
        return ways.countOnPath(plan, state, s, l);
    }

    public int plate(int row) {
        if (!isRow(row)) {
            return NONE;
        }
        plate.setLength(0);
        for (int k = 0; k < ROW_PLACES; k++) {
            if (k > 0) {
                plate.append('-');
            }
            int s = state.owner[ROW_PLACES * row + k];
            if (s == NONE) {
                plate.append("gap");
            } else {
                writeName(plan.signerNames[s]);
            }
        }
        return plate.length();
    }

    public int byteAt(int i) {
        if (i < 0 || i >= plate.length()) {
            return NONE;
        }
        return plate.charAt(i);
    }

    public int drawn(int n, int seed) {
        if (n < 1 || n > MOST_DAYS || plan.signers == 0) {
            return NONE;
        }
        rememberState();
        int went = forecast.drawDays(plan, state, ways, n, seed);
        if (went > 0) {
            keepRemembered();
        }
        return went;
    }

    public int odds(int l, int n, int seed) {
        if (!isLoad(l) || n < 1 || n > MOST_SEEDS || plan.signers == 0) {
            return NONE;
        }
        return forecast.countOdds(plan, state, ways, l, n, seed);
    }

    public int book(int lives) {
        if (lives != 0 && lives != 1) {
            return NO_SUCH_LIVES;
        }
        boolean good = book.read(tokens, plan);
        tokens.length = 0;
        if (!good) {
            return -2 - tokens.faultAt;
        }
        rememberState();
        int wrong = book.live(plan, state, ways);
        if (lives == 1) {
            keepRemembered();
        } else {
            state.copyOf(past[pastNext]);
        }
        return wrong;
    }

    public int told(int what) {
        if (what < 0 || what >= book.verdict.length) {
            return NONE;
        }
        return book.verdict[what];
    }

    public int sentence() {
        boolean good = sentenceDraft.read(tokens, plan);
        tokens.length = 0;
        if (!good) {
            return -1 - tokens.faultAt;
        }
        Sentence old = sentence;
        sentence = sentenceDraft;
        sentenceDraft = old;
        return sentence.ones;
    }

    public int said(int k) {
        if (sentence.ones == 0 || k < NONE) {
            return NONE;
        }
        int bits = sentence.judge(plan, state);
        if (k == NONE) {
            return Integer.bitCount(bits);
        }
        int before = 0;
        for (int s = 0; s < plan.signers; s++) {
            if ((bits >> s & 1) != 0) {
                if (before == k) {
                    return s;
                }
                before++;
            }
        }
        return NONE;
    }

    public boolean image(int k) {
        if (k < 0 || k >= IMAGES) {
            return false;
        }
        imagePlans[k].copyOf(plan);
        imageStates[k].copyOf(state);
        imageSentences[k].copyOf(sentence);
        imageKept[k] = true;
        return true;
    }

    public boolean restore(int k) {
        if (k < 0 || k >= IMAGES || !imageKept[k]) {
            return false;
        }
        plan.copyOf(imagePlans[k]);
        state.copyOf(imageStates[k]);
        sentence.copyOf(imageSentences[k]);
        pastCount = 0;
        return true;
    }

    public int count(int what) {
        switch (what) {
            case 0: return plan.rows;
            case 1: return plan.signers;
            case 2: return plan.loads;
            case 3: return plan.lovers;
            case 4: return plan.keeps;
            case 5: return tokens.length;
            default: return NONE;
        }
    }

    private boolean isSigner(int s) {
        return s >= 0 && s < plan.signers;
    }

    private boolean isLoad(int l) {
        return l >= 0 && l < plan.loads;
    }

    private boolean isRow(int row) {
        return row >= 0 && row < plan.rows;
    }

    private boolean isPlace(int row, int k) {
        return isRow(row) && k >= 0 && k < ROW_PLACES;
    }

    /** A NAME is held as a number, five bits a letter, the first the highest. */
    private void writeName(long name) {
        for (int i = MOST_LETTERS - 1; i >= 0; i--) {
            int letter = (int) (name >>> 5 * i & 31);
            if (letter != 0) {
                plate.append((char) ('a' - 1 + letter));
            }
        }
    }

    private void rememberState() {
        past[pastNext].copyOf(state);
    }

    private void keepRemembered() {
        pastNext = pastNext == MOST_UNDONE ? 0 : pastNext + 1;
        pastCount = Math.min(MOST_UNDONE, pastCount + 1);
    }

    private int keepIfDone(int why) {
        if (why == 0) {
            keepRemembered();
        }
        return why;
    }

    /** What a BRIDGE's text tells, as it was on DAY 0. */
    private static final class Plan {
        int rows;
        int keeps;
        int signers;
        int loads;
        int lovers;
        int forgers;
        final long[] signerNames = new long[MOST_SIGNERS];
        final int[] earnest = new int[MOST_SIGNERS];
        final int[] miles = new int[MOST_SIGNERS];
        final int[] heir = new int[MOST_SIGNERS];
        final int[] loves = new int[MOST_SIGNERS];
        final int[] owner = new int[MOST_PLACES];
        final long[] loadNames = new long[MOST_LOADS];
        final int[] weight = new int[MOST_LOADS];
        final int[] wide = new int[MOST_LOADS];

        Plan() {
            clear();
        }

        void clear() {
            rows = 4;
            keeps = 5;
            signers = 0;
            loads = 0;
            lovers = 0;
            forgers = 0;
            Arrays.fill(heir, NONE);
            Arrays.fill(loves, 0);
            Arrays.fill(owner, NONE);
        }

        void copyOf(Plan other) {
            rows = other.rows;
            keeps = other.keeps;
            signers = other.signers;
            loads = other.loads;
            lovers = other.lovers;
            forgers = other.forgers;
            System.arraycopy(other.signerNames, 0, signerNames, 0, MOST_SIGNERS);
            System.arraycopy(other.earnest, 0, earnest, 0, MOST_SIGNERS);
            System.arraycopy(other.miles, 0, miles, 0, MOST_SIGNERS);
            System.arraycopy(other.heir, 0, heir, 0, MOST_SIGNERS);
            System.arraycopy(other.loves, 0, loves, 0, MOST_SIGNERS);
            System.arraycopy(other.owner, 0, owner, 0, MOST_PLACES);
            System.arraycopy(other.loadNames, 0, loadNames, 0, MOST_LOADS);
            System.arraycopy(other.weight, 0, weight, 0, MOST_LOADS);
            System.arraycopy(other.wide, 0, wide, 0, MOST_LOADS);
        }

        int signerNamed(long name) {
            for (int s = 0; s < signers; s++) {
                if (signerNames[s] == name) {
                    return s;
                }
            }
            return NONE;
        }

        int loadNamed(long name) {
            for (int l = 0; l < loads; l++) {
                if (loadNames[l] == name) {
                    return l;
                }
            }
            return NONE;
        }

        boolean areLovers(int a, int b) {
            return a != NONE && b != NONE && (loves[a] >> b & 1) != 0;
        }

        int countPlanksOf(int s) {
            int held = 0;
            for (int place = 0; place < MOST_PLACES; place++) {
                if (owner[place] == s) {
                    held++;
                }
            }
            return held;
        }
    }

    /** All that changes from act to act and from DAY to DAY. */
    private static final class State {
        int day;
        int burnt;
        int fallen;
        final int[] earnest = new int[MOST_SIGNERS];
        final int[] died = new int[MOST_SIGNERS];
        final int[] held = new int[MOST_SIGNERS];
        final int[] owner = new int[MOST_PLACES];
        final int[] singed = new int[MOST_PLACES];
        final int[] crossed = new int[MOST_LOADS];

        State() {
            Arrays.fill(died, NONE);
            Arrays.fill(owner, NONE);
        }

        void begin(Plan plan) {
            day = 0;
            burnt = 0;
            fallen = 0;
            Arrays.fill(died, NONE);
            Arrays.fill(singed, 0);
            Arrays.fill(crossed, 0);
            System.arraycopy(plan.earnest, 0, earnest, 0, MOST_SIGNERS);
            System.arraycopy(plan.owner, 0, owner, 0, MOST_PLACES);
            for (int s = 0; s < MOST_SIGNERS; s++) {
                held[s] = plan.countPlanksOf(s);
            }
        }

        void copyOf(State other) {
            day = other.day;
            burnt = other.burnt;
            fallen = other.fallen;
            System.arraycopy(other.earnest, 0, earnest, 0, MOST_SIGNERS);
            System.arraycopy(other.died, 0, died, 0, MOST_SIGNERS);
            System.arraycopy(other.held, 0, held, 0, MOST_SIGNERS);
            System.arraycopy(other.owner, 0, owner, 0, MOST_PLACES);
            System.arraycopy(other.singed, 0, singed, 0, MOST_PLACES);
            System.arraycopy(other.crossed, 0, crossed, 0, MOST_LOADS);
        }

        boolean lives(int s) {
            return died[s] == NONE;
        }

        int deadBits(Plan plan) {
            int bits = 0;
            for (int s = 0; s < plan.signers; s++) {
                if (!lives(s)) {
                    bits |= 1 << s;
                }
            }
            return bits;
        }

        int countPlanks() {
            int planks = 0;
            for (int place = 0; place < MOST_PLACES; place++) {
                if (owner[place] != NONE) {
                    planks++;
                }
            }
            return planks;
        }

        int countCrossings() {
            int all = 0;
            for (int l = 0; l < MOST_LOADS; l++) {
                all += crossed[l];
            }
            return all;
        }

        int putPlank(int s, int place) {
            if (!lives(s)) {
                return 1;
            }
            if (owner[place] != NONE) {
                return 2;
            }
            if (held[s] >= MOST_HELD) {
                return 3;
            }
            owner[place] = s;
            held[s]++;
            return 0;
        }

        void makeGap(int place) {
            if (owner[place] != NONE) {
                held[owner[place]]--;
            }
            owner[place] = NONE;
            singed[place] = 0;
        }

        int burnPlank(int place) {
            if (owner[place] == NONE) {
                return 1;
            }
            makeGap(place);
            burnt++;
            int k = place % ROW_PLACES;
            if (k > 0) {
                singe(place - 1);
            }
            if (k < ROW_PLACES - 1) {
                singe(place + 1);
            }
            return 0;
        }

        private void singe(int place) {
            if (owner[place] != NONE && singed[place] < MOST_SINGED) {
                singed[place]++;
            }
        }

        int breakWord(int s) {
            if (!lives(s)) {
                return 1;
            }
            earnest[s] /= 2;
            return 0;
        }

        int holdWord(int s) {
            if (!lives(s)) {
                return 1;
            }
            if (earnest[s] >= MOST_EARNEST) {
                return 2;
            }
            earnest[s]++;
            return 0;
        }

        int endLife(int s) {
            if (!lives(s)) {
                return 1;
            }
            died[s] = day;
            return 0;
        }

        int passDays(Plan plan, int n) {
            int went = 0;
            while (went < n && day < LAST_DAY) {
                passDay(plan, plan.keeps);
                went++;
            }
            return went;
        }

        /** Whether a PLANK changed hands or was lost. */
        boolean passDay(Plan plan, int keeps) {
            if (day >= LAST_DAY) {
                return false;
            }
            boolean changed = false;
            for (int s = 0; s < plan.signers; s++) {
                if (!lives(s) && held[s] > 0 && died[s] + keeps == day) {
                    handDown(s, plan.heir[s]);
                    changed = true;
                }
            }
            day++;
            return changed;
        }

        private void handDown(int s, int heir) {
            for (int place = 0; place < MOST_PLACES; place++) {
                if (owner[place] != s) {
                    continue;
                }
                if (heir != NONE && lives(heir) && held[heir] < MOST_HELD) {
                    owner[place] = heir;
                    held[s]--;
                    held[heir]++;
                } else {
                    makeGap(place);
                }
            }
        }
    }

    /** What PLANKS BEAR, and the PATHS over them. */
    private static final class Ways {
        static final int GAP = -1;
        final int[] bear = new int[MOST_PLACES];
        private final int[] spare = new int[MOST_STEPS];
        private final int[] best = new int[MOST_STEPS];
        final int[] steps = new int[MOST_ROWS];

        static int bearing(Plan plan, State state, int forgers, int place) {
            int s = state.owner[place];
            if (s == NONE) {
                return GAP;
            }
            if ((forgers >> s & 1) != 0) {
                return 0;
            }
            int k = place % ROW_PLACES;
            int sum = 10 * state.earnest[s] - 5 * state.singed[place];
            if (k > 0 && plan.areLovers(s, state.owner[place - 1])) {
                sum += 5;
            }
            if (k < ROW_PLACES - 1 && plan.areLovers(s, state.owner[place + 1])) {
                sum += 5;
            }
            return Math.max(0, sum);
        }

        void weighRow(Plan plan, State state, int forgers, int row) {
            for (int k = 0; k < ROW_PLACES; k++) {
                int place = ROW_PLACES * row + k;
                bear[place] = bearing(plan, state, forgers, place);
            }
        }

        private void weigh(Plan plan, State state) {
            for (int place = 0; place < ROW_PLACES * plan.rows; place++) {
                bear[place] = bearing(plan, state, plan.forgers, place);
            }
        }

        int bearInAll(Plan plan, State state) {
            weigh(plan, state);
            int sum = 0;
            for (int place = 0; place < ROW_PLACES * plan.rows; place++) {
                sum += Math.max(0, bear[place]);
            }
            return sum;
        }

        /** What the places from K on BEAR in all; GAP, if one of them is a gap or there are too few. */
        private int bearTogether(int row, int k, int wide) {
            if (k + wide > ROW_PLACES) {
                return GAP;
            }
            int sum = 0;
            for (int i = 0; i < wide; i++) {
                int one = bear[ROW_PLACES * row + k + i];
                if (one == GAP) {
                    return GAP;
                }
                sum += one;
            }
            return sum;
        }

        /** The steps that a LOAD can take in a ROW that has been weighed, as bits. */
        int possibleSteps(int row, int weight, int wide) {
            int bits = weight <= LIGHT ? JUMP_BIT : 0;
            for (int k = 0; k + wide <= ROW_PLACES; k++) {
                int sum = bearTogether(row, k, wide);
                if (sum != GAP && sum >= weight) {
                    bits |= 1 << k;
                }
            }
            return bits;
        }

        /** The first ROW behind which there is no PATH from ROW 0 on; NONE: there is a whole one. */
        private int lostRow(Plan plan, int l) {
            int open = ANY_STEP;
            for (int row = 0; row < plan.rows; row++) {
                int reached = open & possibleSteps(row, plan.weight[l], plan.wide[l]);
                if (reached == 0) {
                    return row;
                }
                open = OPEN[reached];
            }
            return NONE;
        }

        boolean hasPath(Plan plan, State state, int l) {
            weigh(plan, state);
            return lostRow(plan, l) == NONE;
        }

        /** LOADS that have not FALLEN and have a PATH, as bits. */
        int ableLoads(Plan plan, State state) {
            weigh(plan, state);
            int bits = 0;
            for (int l = 0; l < plan.loads; l++) {
                if ((state.fallen >> l & 1) == 0 && lostRow(plan, l) == NONE) {
                    bits |= 1 << l;
                }
            }
            return bits;
        }

        int tryCrossing(Plan plan, State state, int l) {
            if ((state.fallen >> l & 1) != 0) {
                return 1;
            }
            weigh(plan, state);
            int row = lostRow(plan, l);
            if (row == NONE) {
                state.crossed[l]++;
                return 0;
            }
            state.fallen |= 1 << l;
            dropPlanks(state, row, plan.wide[l]);
            return 2;
        }

        private void dropPlanks(State state, int row, int wide) {
            int most = GAP;
            int at = NONE;
            for (int k = 0; k + wide <= ROW_PLACES; k++) {
                int sum = bearTogether(row, k, wide);
                if (sum > most) {
                    most = sum;
                    at = k;
                }
            }
            if (at == NONE) {
                return;
            }
            for (int i = 0; i < wide; i++) {
                state.makeGap(ROW_PLACES * row + at + i);
            }
        }

        /** SAFEST PATH: its least SPARE, its steps kept; NONE: there is no PATH. */
        int findSafest(Plan plan, State state, int l) {
            weigh(plan, state);
            spareSteps(plan.rows, plan.weight[l], plan.wide[l], plan.weight[l] <= LIGHT);
            int least = greatestLeast(plan.rows);
            if (least != NONE) {
                followFirst(plan.rows, least);
            }
            return least;
        }

        int mostWeight(Plan plan, State state, int wide) {
            weigh(plan, state);
            spareSteps(plan.rows, 0, wide, false);
            return Math.max(0, greatestLeast(plan.rows));
        }

        private void spareSteps(int rows, int weight, int wide, boolean mayJump) {
            for (int row = 0; row < rows; row++) {
                for (int k = 0; k < ROW_PLACES; k++) {
                    int sum = bearTogether(row, k, wide);
                    spare[STEPS * row + k] = sum == GAP || sum < weight ? NONE : sum - weight;
                }
                spare[STEPS * row + JUMP] = mayJump ? JUMP_SPARE : NONE;
            }
        }

        /** Fills in, from the last ROW on, the greatest least SPARE from each step on. */
        private int greatestLeast(int rows) {
            for (int row = rows - 1; row >= 0; row--) {
                for (int step = 0; step < STEPS; step++) {
                    int at = STEPS * row + step;
                    best[at] = spare[at];
                    if (row < rows - 1) {
                        best[at] = Math.min(spare[at], bestOpen(row + 1, OPEN[1 << step]));
                    }
                }
            }
            return bestOpen(0, ANY_STEP);
        }

        private int bestOpen(int row, int open) {
            int most = NONE;
            for (int step = 0; step < STEPS; step++) {
                if ((open >> step & 1) != 0) {
                    most = Math.max(most, best[STEPS * row + step]);
                }
            }
            return most;
        }

        private void followFirst(int rows, int least) {
            int open = ANY_STEP;
            for (int row = 0; row < rows; row++) {
                int step = 0;
                while (step < JUMP && ((open >> step & 1) == 0 || best[STEPS * row + step] < least)) {
                    step++;
                }
                steps[row] = step;
                open = OPEN[1 << step];
            }
        }

        /** How many PLANKS of a SIGNER are under the SAFEST PATH that was found last. */
        int countOnPath(Plan plan, State state, int s, int l) {
            int planks = 0;
            for (int row = 0; row < plan.rows; row++) {
                for (int i = 0; i < plan.wide[l] && steps[row] != JUMP; i++) {
                    int k = steps[row] + i;
                    if (k < ROW_PLACES && state.owner[ROW_PLACES * row + k] == s) {
                        planks++;
                    }
                }
            }
            return planks;
        }
    }

    /** ASKS: who is to sign gaps so that a LOAD can cross. */
    private static final class Asks {
        private static final int NO_WAY = 1000000;
        private final State trial = new State();
        private final int[] cost = new int[MOST_STEPS];
        private final int[] total = new int[MOST_STEPS];
        private final int[] picks = new int[MOST_STEPS * ROW_PLACES];
        final int[] asked = new int[MOST_PLACES];

        Asks() {
            Arrays.fill(asked, NONE);
        }

        int find(Plan plan, State state, int l) {
            trial.copyOf(state);
            for (int row = 0; row < plan.rows; row++) {
                for (int k = 0; k < ROW_PLACES; k++) {
                    cost[STEPS * row + k] = price(plan, state, l, row, k);
                }
                cost[STEPS * row + JUMP] = plan.weight[l] <= LIGHT ? 0 : NO_WAY;
            }
            int miles = addUp(plan.rows);
            if (miles >= NO_WAY) {
                return NONE;
            }
            followFirst(plan, state, l);
            return miles;
        }

        /** The fewest MILES by which the LOAD would STAND in the ROW at K; the first such SIGNERS are kept. */
        private int price(Plan plan, State state, int l, int row, int k) {
            if (k + plan.wide[l] > ROW_PLACES) {
                return NO_WAY;
            }
            int from = ROW_PLACES * row + k;
            int to = from + plan.wide[l];
            int ways = countWays(plan, state, from, to);
            int least = NO_WAY;
            for (int way = 0; way < ways; way++) {
                int miles = tryWay(plan, state, way, from, to);
                if (miles < least && bearTogether(plan, from, to) >= plan.weight[l]) {
                    least = miles;
                    for (int place = from; place < to; place++) {
                        picks[ROW_PLACES * (STEPS * row + k) + place - from] = trial.owner[place];
                    }
                }
            }
            System.arraycopy(state.owner, from, trial.owner, from, to - from);
            return least;
        }

        private int countWays(Plan plan, State state, int from, int to) {
            int ways = 1;
            for (int place = from; place < to; place++) {
                if (state.owner[place] == NONE) {
                    ways *= plan.signers;
                }
            }
            return ways;
        }

        /** Signs the gaps by the digits of a number, the last gap by the lowest one: the MILES. */
        private int tryWay(Plan plan, State state, int way, int from, int to) {
            int rest = way;
            int miles = 0;
            for (int place = to - 1; place >= from && plan.signers > 0; place--) {
                if (state.owner[place] == NONE) {
                    int s = rest % plan.signers;
                    rest /= plan.signers;
                    trial.owner[place] = s;
                    miles += state.lives(s) ? plan.miles[s] : NO_WAY;
                }
            }
            return miles;
        }

        private int bearTogether(Plan plan, int from, int to) {
            int sum = 0;
            for (int place = from; place < to; place++) {
                sum += Ways.bearing(plan, trial, plan.forgers, place);
            }
            return sum;
        }

        private int addUp(int rows) {
            for (int row = rows - 1; row >= 0; row--) {
                for (int step = 0; step < STEPS; step++) {
                    int at = STEPS * row + step;
                    int rest = row < rows - 1 ? leastOpen(row + 1, OPEN[1 << step]) : 0;
                    total[at] = Math.min(NO_WAY, cost[at] + rest);
                }
            }
            return leastOpen(0, ANY_STEP);
        }

        private int leastOpen(int row, int open) {
            int least = NO_WAY;
            for (int step = 0; step < STEPS; step++) {
                if ((open >> step & 1) != 0) {
                    least = Math.min(least, total[STEPS * row + step]);
                }
            }
            return least;
        }

        private void followFirst(Plan plan, State state, int l) {
            Arrays.fill(asked, NONE);
            int open = ANY_STEP;
            for (int row = 0; row < plan.rows; row++) {
                int least = leastOpen(row, open);
                int step = 0;
                while (step < JUMP && ((open >> step & 1) == 0 || total[STEPS * row + step] != least)) {
                    step++;
                }
                for (int i = 0; i < plan.wide[l] && step != JUMP; i++) {
                    int place = ROW_PLACES * row + step + i;
                    if (place < MOST_PLACES && state.owner[place] == NONE) {
                        asked[place] = picks[ROW_PLACES * (STEPS * row + step) + i];
                    }
                }
                open = OPEN[1 << step];
            }
        }
    }

    /** CUT: as PLANKS of one ROW tell nothing of another's, ROW by ROW over the steps that are open. */
    private static final class Cut {
        private static final int NEVER = 99;
        private static final int MOST_CUT = 3;
        /* Sets of a ROW's places, as bits: those ahead whose places, one by one, are the least. */
        private static final int[] SETS = {7, 3, 5, 1, 6, 2, 4, 0};
        private final State trial = new State();
        private final int[] possible = new int[MOST_ROWS * ROW_SETS];
        private final int[] need = new int[(MOST_ROWS + 1) * STEP_SETS];
        final int[] places = new int[MOST_CUT];
        int size;

        int find(Plan plan, State state, Ways ways, int l) {
            trial.copyOf(state);
            for (int row = 0; row < plan.rows; row++) {
                for (int set = 0; set < ROW_SETS; set++) {
                    possible[ROW_SETS * row + set] = stepsWithout(plan, state, ways, l, row, set);
                }
            }
            fillNeed(plan.rows);
            int least = need[ANY_STEP];
            if (least > MOST_CUT) {
                return NONE;
            }
            followFirst(plan.rows, least);
            return least;
        }

        /** The steps of a LOAD in a ROW without some of its PLANKS; NONE, if one of these is a gap. */
        private int stepsWithout(Plan plan, State state, Ways ways, int l, int row, int set) {
            boolean all = true;
            for (int k = 0; k < ROW_PLACES; k++) {
                if ((set >> k & 1) != 0) {
                    all &= state.owner[ROW_PLACES * row + k] != NONE;
                    trial.owner[ROW_PLACES * row + k] = NONE;
                }
            }
            ways.weighRow(plan, trial, plan.forgers, row);
            int steps = ways.possibleSteps(row, plan.weight[l], plan.wide[l]);
            System.arraycopy(state.owner, ROW_PLACES * row, trial.owner, ROW_PLACES * row, ROW_PLACES);
            return all ? steps : NONE;
        }

        /** By ROW and open steps: how few PLANKS must go from that ROW on. */
        private void fillNeed(int rows) {
            for (int open = 0; open < STEP_SETS; open++) {
                need[STEP_SETS * rows + open] = NEVER;
            }
            for (int row = rows - 1; row >= 0; row--) {
                for (int open = 0; open < STEP_SETS; open++) {
                    int least = NEVER;
                    for (int set = 0; set < ROW_SETS; set++) {
                        least = Math.min(least, needWith(row, open, set));
                    }
                    need[STEP_SETS * row + open] = least;
                }
            }
        }

        private int needWith(int row, int open, int set) {
            int steps = possible[ROW_SETS * row + set];
            if (steps == NONE) {
                return NEVER;
            }
            int reached = open & steps;
            int rest = reached == 0 ? 0 : need[STEP_SETS * (row + 1) + OPEN[reached]];
            return Integer.bitCount(set) + rest;
        }

        private void followFirst(int rows, int least) {
            size = 0;
            int open = ANY_STEP;
            for (int row = 0; row < rows && size < least; row++) {
                int i = 0;
                while (i < SETS.length - 1 && needWith(row, open, SETS[i]) != least - size) {
                    i++;
                }
                addPlaces(row, SETS[i]);
                int reached = open & possible[ROW_SETS * row + SETS[i]];
                open = OPEN[reached];
            }
        }

        private void addPlaces(int row, int set) {
            for (int k = 0; k < ROW_PLACES; k++) {
                if ((set >> k & 1) != 0 && size < MOST_CUT) {
                    places[size] = ROW_PLACES * row + k;
                    size++;
                }
            }
        }
    }

    /** FORGERS and TELLS: who may have forged by who has a PATH. */
    private static final class Forgers {
        private static final int MOST_PAIRS = 6;
        private final int[] possible = new int[MOST_LOADS * MOST_ROWS * ROW_SETS];
        private final int[] forged = new int[MOST_ROWS];
        private final int[] ableBy = new int[MOST_LOADS];
        int common = NONE;
        int telling = NONE;

        int find(Plan plan, State state, Ways ways, Tokens tokens) {
            if (!isAsTold(plan, tokens)) {
                return NONE;
            }
            weighForged(plan, state, ways);
            Arrays.fill(ableBy, 0);
            int sets = 0;
            int inAll = (1 << plan.signers) - 1;
            for (int set = 0; set < 1 << plan.signers; set++) {
                markForged(plan, state, set);
                int able = ableLoads(plan);
                if (agrees(tokens, able)) {
                    sets++;
                    inAll &= set;
                    addAble(plan, able);
                }
            }
            if (sets > 0) {
                common = inAll;
                telling = mostTelling(plan, sets);
            }
            return sets;
        }

        private boolean isAsTold(Plan plan, Tokens tokens) {
            int size = tokens.length;
            if (size < 2 || size > 2 * MOST_PAIRS || size % 2 != 0) {
                return false;
            }
            for (int i = 0; i + 1 < size; i += 2) {
                if (tokens.bytes[i] >= plan.loads || tokens.bytes[i + 1] > 1) {
                    return false;
                }
            }
            return true;
        }

        /** The steps of each LOAD in each ROW, by which of its three places are forged. */
        private void weighForged(Plan plan, State state, Ways ways) {
            for (int row = 0; row < plan.rows; row++) {
                for (int set = 0; set < ROW_SETS; set++) {
                    ways.weighRow(plan, state, 0, row);
                    for (int k = 0; k < ROW_PLACES; k++) {
                        int place = ROW_PLACES * row + k;
                        if ((set >> k & 1) != 0 && ways.bear[place] != Ways.GAP) {
                            ways.bear[place] = 0;
                        }
                    }
                    for (int l = 0; l < plan.loads; l++) {
                        int steps = ways.possibleSteps(row, plan.weight[l], plan.wide[l]);
                        possible[ROW_SETS * (MOST_ROWS * l + row) + set] = steps;
                    }
                }
            }
        }

        private void markForged(Plan plan, State state, int set) {
            for (int row = 0; row < plan.rows; row++) {
                int bits = 0;
                for (int k = 0; k < ROW_PLACES; k++) {
                    int s = state.owner[ROW_PLACES * row + k];
                    if (s != NONE) {
                        bits |= (set >> s & 1) << k;
                    }
                }
                forged[row] = bits;
            }
        }

        private int ableLoads(Plan plan) {
            int bits = 0;
            for (int l = 0; l < plan.loads; l++) {
                int open = ANY_STEP;
                for (int row = 0; row < plan.rows && open != 0; row++) {
                    open = OPEN[open & possible[ROW_SETS * (MOST_ROWS * l + row) + forged[row]]];
                }
                if (open != 0) {
                    bits |= 1 << l;
                }
            }
            return bits;
        }

        private boolean agrees(Tokens tokens, int able) {
            for (int i = 0; i + 1 < tokens.length; i += 2) {
                if ((able >> tokens.bytes[i] & 1) != tokens.bytes[i + 1]) {
                    return false;
                }
            }
            return true;
        }

        private void addAble(Plan plan, int able) {
            for (int l = 0; l < plan.loads; l++) {
                ableBy[l] += able >> l & 1;
            }
        }

        private int mostTelling(Plan plan, int sets) {
            int first = 0;
            for (int l = 1; l < plan.loads; l++) {
                if (Math.abs(2 * ableBy[l] - sets) < Math.abs(2 * ableBy[first] - sets)) {
                    first = l;
                }
            }
            return first;
        }
    }

    /** What would be: all that is tried out on another State. */
    private static final class Forecast {
        private static final int ODDS_DAYS = 20;
        private static final int LAST_LOOK = 200;
        private final State trial = new State();
        private final State second = new State();
        private int seed;
        final int[] order = new int[MOST_LOADS];
        int orderSize;

        int findKeystone(Plan plan, State state, Ways ways) {
            int least = MOST_LOADS + 1;
            int first = NONE;
            for (int s = 0; s < plan.signers; s++) {
                trial.copyOf(state);
                for (int place = 0; place < MOST_PLACES; place++) {
                    if (trial.owner[place] == s) {
                        trial.makeGap(place);
                    }
                }
                int able = Integer.bitCount(ways.ableLoads(plan, trial));
                if (able < least) {
                    least = able;
                    first = s;
                }
            }
            return first;
        }

        /**
         * ORDER: a fall never helps another LOAD, so the most that can cross are those that can now,
         * and a LOAD that can't may go ahead of these if they still can behind its fall.
         */
        int findOrder(Plan plan, State state, Ways ways) {
            trial.copyOf(state);
            int able = ways.ableLoads(plan, state);
            int left = ((1 << plan.loads) - 1) & ~state.fallen;
            int many = Integer.bitCount(left);
            for (orderSize = 0; orderSize < many; orderSize++) {
                int l = nextLoad(plan, ways, left, able & left);
                order[orderSize] = l;
                left &= ~(1 << l);
            }
            return Integer.bitCount(able);
        }

        private int nextLoad(Plan plan, Ways ways, int left, int able) {
            int last = 0;
            for (int l = 0; l < plan.loads; l++) {
                if ((left >> l & 1) == 0) {
                    continue;
                }
                last = l;
                if ((able >> l & 1) != 0) {
                    return l;
                }
                second.copyOf(trial);
                ways.tryCrossing(plan, second, l);
                if ((ways.ableLoads(plan, second) & able) == able) {
                    trial.copyOf(second);
                    return l;
                }
            }
            return last;
        }

        int findLaw(Plan plan, State state, Ways ways, int l, int n) {
            for (int keeps = 0; keeps <= MOST_KEEPS; keeps++) {
                trial.copyOf(state);
                boolean good = ways.hasPath(plan, trial, l);
                for (int i = 1; i < n && good; i++) {
                    if (trial.passDay(plan, keeps)) {
                        good = ways.hasPath(plan, trial, l);
                    }
                }
                if (good) {
                    return keeps;
                }
            }
            return NONE;
        }

        int findLast(Plan plan, State state, Ways ways, int l) {
            trial.copyOf(state);
            boolean changed = true;
            for (int i = 0; i <= LAST_LOOK; i++) {
                if (changed && !ways.hasPath(plan, trial, l)) {
                    return trial.day;
                }
                changed = trial.passDay(plan, plan.keeps);
            }
            return NONE;
        }

        int countOdds(Plan plan, State state, Ways ways, int l, int n, int firstSeed) {
            int good = 0;
            for (int i = 0; i < n; i++) {
                trial.copyOf(state);
                drawDays(plan, trial, ways, ODDS_DAYS, firstSeed + i);
                if (ways.hasPath(plan, trial, l)) {
                    good++;
                }
            }
            return good;
        }

        int drawDays(Plan plan, State state, Ways ways, int n, int firstSeed) {
            seed = firstSeed;
            int went = 0;
            while (went < n && state.day < LAST_DAY) {
                for (int s = 0; s < plan.signers; s++) {
                    drawDeed(plan, state, s);
                }
                for (int l = 0; l < plan.loads; l++) {
                    if (draw(4) == 0) {
                        ways.tryCrossing(plan, state, l);
                    }
                }
                state.passDay(plan, plan.keeps);
                went++;
            }
            return went;
        }

        private void drawDeed(Plan plan, State state, int s) {
            switch (draw(20)) {
                case 0:
                    state.breakWord(s);
                    break;
                case 1:
                    state.holdWord(s);
                    break;
                case 2:
                    if (draw(5) == 0) {
                        state.endLife(s);
                    }
                    break;
                case 3:
                    state.putPlank(s, draw(ROW_PLACES * plan.rows));
                    break;
                default:
                    break;
            }
        }

        private int draw(int n) {
            seed = seed * 1103515245 + 12345;
            return n < 1 ? 0 : (seed >>> 8) % n;
        }
    }

    /** The tape, read TOKEN by TOKEN; the first FAULT of a text is kept here. */
    private static final class Tokens {
        static final int END = 0;
        static final int NO_TOKEN = 1;
        static final int SIGN = 2;
        static final int NUMBER = 3;
        static final int KEY = 4;
        static final int NAME = 5;
        private static final int MOST_DIGITS = 3;

        final int[] bytes = new int[MOST_TAPE];
        int length;
        private int most;
        private int next;
        int kind;
        int at;
        int value;
        long name;
        int taken;
        long takenName;
        int takenAt;
        int faultKind;
        int faultAt;

        void put(int number) {
            for (int shift = 24; shift >= 0 && length < MOST_TAPE; shift -= 8) {
                bytes[length] = number >>> shift & 255;
                length++;
            }
        }

        void begin(int mostBytes) {
            most = mostBytes;
            next = 0;
            faultKind = 0;
            advance();
        }

        /** Goes to the next TOKEN; one that begins ahead of the most bytes is read whole. */
        void advance() {
            int end = Math.min(length, most);
            while (next < end && (bytes[next] == ' ' || bytes[next] == '\n')) {
                next++;
            }
            at = Math.min(next, end);
            if (next >= end) {
                kind = END;
                return;
            }
            value = bytes[next];
            next++;
            if (!isLetter(value) && !isDigit(value)) {
                kind = isSign(value) ? SIGN : NO_TOKEN;
                return;
            }
            int letters = isLetter(value) ? 1 : 0;
            while (next < length && (isLetter(bytes[next]) || isDigit(bytes[next]))) {
                letters += isLetter(bytes[next]) ? 1 : 0;
                next++;
            }
            int size = next - at;
            if (letters == size && size <= MOST_LETTERS) {
                readWord();
            } else if (letters == 0 && size <= MOST_DIGITS) {
                readNumber();
            } else {
                kind = NO_TOKEN;
            }
        }

        private void readWord() {
            name = 0;
            for (int i = at; i < next; i++) {
                name = 32 * name + bytes[i] - 'a' + 1;
            }
            kind = NAME;
            int size = next - at;
            for (int key = 0; key < KEYS && kind == NAME; key++) {
                int i = 0;
                while (i < size && KEY_TEXT.charAt(KEY_SIZE * key + i) == bytes[at + i]) {
                    i++;
                }
                if (i == size && KEY_TEXT.charAt(KEY_SIZE * key + i) == ' ') {
                    kind = KEY;
                    value = key;
                }
            }
        }

        private void readNumber() {
            value = 0;
            for (int i = at; i < next; i++) {
                value = 10 * value + bytes[i] - '0';
            }
            kind = NUMBER;
        }

        private static boolean isLetter(int sign) {
            return sign >= 'a' && sign <= 'z';
        }

        private static boolean isDigit(int sign) {
            return sign >= '0' && sign <= '9';
        }

        private static boolean isSign(int sign) {
            return sign == ';' || sign == '<' || sign == '=' || sign == '>' || sign == '(' || sign == ')';
        }

        boolean refuse(int fault) {
            return refuseAt(fault, at);
        }

        boolean refuseAt(int fault, int place) {
            faultKind = fault;
            faultAt = place;
            return false;
        }

        boolean isKey(int key) {
            return kind == KEY && value == key;
        }

        boolean isSignOf(int sign) {
            return kind == SIGN && value == sign;
        }

        boolean takeEnd() {
            if (kind != END || length > most) {
                return refuse(CANT_COME);
            }
            return true;
        }

        boolean takeSign(int sign) {
            if (!isSignOf(sign)) {
                return refuse(CANT_COME);
            }
            advance();
            return true;
        }

        boolean takeNumber(int low, int high) {
            if (kind != NUMBER) {
                return refuse(CANT_COME);
            }
            if (value < low || value > high) {
                return refuse(BAD_NUMBER);
            }
            taken = value;
            takenAt = at;
            advance();
            return true;
        }

        boolean takeSigner(Plan plan) {
            if (kind != NAME) {
                return refuse(CANT_COME);
            }
            int s = plan.signerNamed(name);
            if (s == NONE) {
                return refuse(BAD_NAME);
            }
            taken = s;
            takenAt = at;
            advance();
            return true;
        }

        boolean takeNewName(Plan plan) {
            if (kind != NAME) {
                return refuse(CANT_COME);
            }
            if (plan.signerNamed(name) != NONE || plan.loadNamed(name) != NONE) {
                return refuse(BAD_NAME);
            }
            takenName = name;
            advance();
            return true;
        }
    }

    /** Reads a BRIDGE. */
    private static final class BridgeText {
        final Plan plan = new Plan();
        int lines;
        private boolean rowsTold;
        private boolean keepsTold;
        private boolean plankTold;

        boolean read(Tokens tokens) {
            plan.clear();
            rowsTold = false;
            keepsTold = false;
            plankTold = false;
            tokens.begin(MOST_BRIDGE);
            for (lines = 0; lines < MOST_TAPE && tokens.kind != Tokens.END; lines++) {
                if (!readLine(tokens) || !tokens.takeSign(';')) {
                    return false;
                }
            }
            return tokens.takeEnd();
        }

        private boolean readLine(Tokens tokens) {
            if (tokens.kind != Tokens.KEY) {
                return tokens.refuse(CANT_COME);
            }
            switch (tokens.value) {
                case KEY_ROWS: return readRows(tokens);
                case KEY_SIGNER: return readSigner(tokens);
                case KEY_HEIR: return readHeir(tokens);
                case KEY_LOVERS: return readLovers(tokens);
                case KEY_PLANK: return readPlank(tokens);
                case KEY_LOAD: return readLoad(tokens);
                case KEY_KEEPS: return readKeeps(tokens);
                default: return tokens.refuse(CANT_COME);
            }
        }

        private boolean readRows(Tokens tokens) {
            if (rowsTold || plankTold) {
                return tokens.refuse(BAD_NAME);
            }
            tokens.advance();
            if (!tokens.takeNumber(1, MOST_ROWS)) {
                return false;
            }
            plan.rows = tokens.taken;
            rowsTold = true;
            return true;
        }

        private boolean readKeeps(Tokens tokens) {
            if (keepsTold) {
                return tokens.refuse(BAD_NAME);
            }
            tokens.advance();
            if (!tokens.takeNumber(0, MOST_KEEPS)) {
                return false;
            }
            plan.keeps = tokens.taken;
            keepsTold = true;
            return true;
        }

        private boolean readSigner(Tokens tokens) {
            int s = plan.signers;
            if (s >= MOST_SIGNERS) {
                return tokens.refuse(TOO_MANY);
            }
            tokens.advance();
            if (!tokens.takeNewName(plan)) {
                return false;
            }
            plan.signerNames[s] = tokens.takenName;
            if (!tokens.takeNumber(0, MOST_EARNEST)) {
                return false;
            }
            plan.earnest[s] = tokens.taken;
            if (!tokens.takeNumber(1, 9)) {
                return false;
            }
            plan.miles[s] = tokens.taken;
            if (tokens.isKey(KEY_FORGER)) {
                plan.forgers |= 1 << s;
                tokens.advance();
            }
            plan.signers++;
            return true;
        }

        private boolean readHeir(Tokens tokens) {
            tokens.advance();
            if (!tokens.takeSigner(plan)) {
                return false;
            }
            int first = tokens.taken;
            if (plan.heir[first] != NONE) {
                return tokens.refuseAt(BAD_NAME, tokens.takenAt);
            }
            if (!tokens.takeSigner(plan)) {
                return false;
            }
            if (tokens.taken == first) {
                return tokens.refuseAt(BAD_NAME, tokens.takenAt);
            }
            plan.heir[first] = tokens.taken;
            return true;
        }

        private boolean readLovers(Tokens tokens) {
            if (plan.lovers >= MOST_LOVERS) {
                return tokens.refuse(TOO_MANY);
            }
            tokens.advance();
            if (!tokens.takeSigner(plan)) {
                return false;
            }
            int first = tokens.taken;
            if (!tokens.takeSigner(plan)) {
                return false;
            }
            int second = tokens.taken;
            if (first == second || plan.areLovers(first, second)) {
                return tokens.refuseAt(BAD_NAME, tokens.takenAt);
            }
            plan.loves[first] |= 1 << second;
            plan.loves[second] |= 1 << first;
            plan.lovers++;
            return true;
        }

        private boolean readPlank(Tokens tokens) {
            tokens.advance();
            if (!tokens.takeSigner(plan)) {
                return false;
            }
            int s = tokens.taken;
            if (plan.countPlanksOf(s) >= MOST_HELD) {
                return tokens.refuseAt(BAD_NAME, tokens.takenAt);
            }
            if (!tokens.takeNumber(0, plan.rows - 1)) {
                return false;
            }
            int row = tokens.taken;
            if (!tokens.takeNumber(0, ROW_PLACES - 1)) {
                return false;
            }
            int place = ROW_PLACES * row + tokens.taken;
            if (plan.owner[place] != NONE) {
                return tokens.refuseAt(BAD_NAME, tokens.takenAt);
            }
            plan.owner[place] = s;
            plankTold = true;
            return true;
        }

        private boolean readLoad(Tokens tokens) {
            int l = plan.loads;
            if (l >= MOST_LOADS) {
                return tokens.refuse(TOO_MANY);
            }
            tokens.advance();
            if (!tokens.takeNewName(plan)) {
                return false;
            }
            plan.loadNames[l] = tokens.takenName;
            if (!tokens.takeNumber(1, MOST_WEIGHT)) {
                return false;
            }
            plan.weight[l] = tokens.taken;
            if (!tokens.takeNumber(1, ROW_PLACES)) {
                return false;
            }
            plan.wide[l] = tokens.taken;
            plan.loads++;
            return true;
        }
    }

    /** Reads a BOOK, and judges it. */
    private static final class Book {
        private static final int MOST_LINES = 40;
        private static final int NO_SIGNING_ROW = 9;
        private static final int NO_BURNING_ROW = 19;
        private static final int FELL_BEFORE = 51;
        private static final int FEWER_DAYS = 61;
        private final int[] deeds = new int[MOST_LINES];
        private final int[] who = new int[MOST_LINES];
        private final int[] first = new int[MOST_LINES];
        private final int[] second = new int[MOST_LINES];
        private int lines;
        final int[] verdict = {NONE, NONE, NONE, NONE};

        boolean read(Tokens tokens, Plan plan) {
            tokens.begin(MOST_BOOK);
            for (lines = 0; lines <= MOST_LINES && tokens.kind != Tokens.END; lines++) {
                if (!readLine(tokens, plan) || !tokens.takeSign(';')) {
                    return false;
                }
            }
            return tokens.takeEnd();
        }

        private boolean readLine(Tokens tokens, Plan plan) {
            boolean named = tokens.kind == Tokens.NAME;
            if (!named && !tokens.isKey(KEY_BURNS) && !tokens.isKey(KEY_DAY)) {
                return tokens.refuse(CANT_COME);
            }
            int s = named ? plan.signerNamed(tokens.name) : NONE;
            int l = named ? plan.loadNamed(tokens.name) : NONE;
            if (named && s == NONE && l == NONE) {
                return tokens.refuse(BAD_NAME);
            }
            if (lines >= MOST_LINES) {
                return tokens.refuse(TOO_MANY);
            }
            if (named) {
                tokens.advance();
                who[lines] = s != NONE ? s : l;
            }
            if (named && !(s != NONE ? isSignersDeed(tokens) : tokens.isKey(KEY_CROSSES))) {
                return tokens.refuse(CANT_COME);
            }
            deeds[lines] = tokens.value;
            tokens.advance();
            switch (deeds[lines]) {
                case KEY_SIGNS: return readPlace(tokens);
                case KEY_BURNS: return readPlace(tokens);
                case KEY_DAY: return readDays(tokens);
                default: return true;
            }
        }

        private static boolean isSignersDeed(Tokens tokens) {
            return tokens.isKey(KEY_SIGNS) || tokens.isKey(KEY_BREAKS) || tokens.isKey(KEY_HOLDS)
                    || tokens.isKey(KEY_DIES);
        }

        private boolean readPlace(Tokens tokens) {
            if (!tokens.takeNumber(0, MOST_ROWS - 1)) {
                return false;
            }
            first[lines] = tokens.taken;
            if (!tokens.takeNumber(0, ROW_PLACES - 1)) {
                return false;
            }
            second[lines] = tokens.taken;
            return true;
        }

        private boolean readDays(Tokens tokens) {
            if (!tokens.takeNumber(1, MOST_DAYS)) {
                return false;
            }
            first[lines] = tokens.taken;
            return true;
        }

        /** Lives LINE by LINE: the LINE that is WRONG, NONE without one; the verdict is kept. */
        int live(Plan plan, State state, Ways ways) {
            int line = 0;
            int why = 0;
            while (line < lines && why == 0) {
                why = liveLine(plan, state, ways, line);
                if (why == 0) {
                    line++;
                }
            }
            verdict[0] = why;
            verdict[1] = line;
            verdict[2] = state.day;
            verdict[3] = state.fallen;
            return why == 0 ? NONE : line;
        }

        private int liveLine(Plan plan, State state, Ways ways, int line) {
            int row = first[line];
            int place = ROW_PLACES * row + second[line];
            switch (deeds[line]) {
                case KEY_SIGNS:
                    return row >= plan.rows ? NO_SIGNING_ROW : state.putPlank(who[line], place);
                case KEY_BURNS:
                    return row >= plan.rows ? NO_BURNING_ROW : behind(10, state.burnPlank(place));
                case KEY_BREAKS:
                    return behind(20, state.breakWord(who[line]));
                case KEY_HOLDS:
                    return behind(30, state.holdWord(who[line]));
                case KEY_DIES:
                    return behind(40, state.endLife(who[line]));
                case KEY_CROSSES:
                    return ways.tryCrossing(plan, state, who[line]) == 1 ? FELL_BEFORE : 0;
                default:
                    if (state.day + first[line] > LAST_DAY) {
                        return FEWER_DAYS;
                    }
                    state.passDays(plan, first[line]);
                    return 0;
            }
        }

        private static int behind(int tens, int why) {
            return why == 0 ? 0 : tens + why;
        }
    }

    /** Reads a SENTENCE, and says it of SIGNERS; it is held with each operator behind what it joins. */
    private static final class Sentence {
        private static final int MOST_ONES = 20;
        private static final int MOST_WITHIN = 8;
        private static final int MOST_CODE = 40;
        /* An open bracket among the operators that wait. */
        private static final int BRACKET = 100;
        private final int[] code = new int[MOST_CODE];
        private final int[] sign = new int[MOST_CODE];
        private final int[] number = new int[MOST_CODE];
        private int size;
        private final int[] delayed = new int[MOST_CODE];
        private int delays;
        private int within;
        private final int[] stack = new int[MOST_CODE];
        int ones;

        void forget() {
            ones = 0;
            size = 0;
        }

        void copyOf(Sentence other) {
            ones = other.ones;
            size = other.size;
            System.arraycopy(other.code, 0, code, 0, MOST_CODE);
            System.arraycopy(other.sign, 0, sign, 0, MOST_CODE);
            System.arraycopy(other.number, 0, number, 0, MOST_CODE);
        }

        boolean read(Tokens tokens, Plan plan) {
            forget();
            delays = 0;
            within = 0;
            tokens.begin(MOST_SENTENCE);
            boolean more = true;
            for (int i = 0; i <= MOST_TAPE && more; i++) {
                if (!readOne(tokens, plan)) {
                    return false;
                }
                closeBrackets(tokens);
                more = readJoin(tokens);
            }
            if (within > 0) {
                return tokens.refuse(CANT_COME);
            }
            settle(NONE);
            return tokens.takeEnd();
        }

        /** Reads the 'not's and brackets ahead of a ONE, and it. */
        private boolean readOne(Tokens tokens, Plan plan) {
            for (int i = 0; i <= MOST_ONES; i++) {
                if (!beginsOne(tokens)) {
                    return tokens.refuse(CANT_COME);
                }
                if (ones >= MOST_ONES || within >= MOST_WITHIN) {
                    return tokens.refuse(TOO_MANY);
                }
                ones++;
                boolean isNot = tokens.isKey(KEY_NOT);
                if (!isNot && !tokens.isSignOf('(')) {
                    return readSaying(tokens, plan) && settleNots();
                }
                delay(isNot ? KEY_NOT : BRACKET);
                within++;
                tokens.advance();
            }
            return tokens.refuse(TOO_MANY);
        }

        private static boolean beginsOne(Tokens tokens) {
            if (tokens.kind == Tokens.KEY) {
                return tokens.value >= KEY_NOT && tokens.value <= KEY_NUMBER;
            }
            return tokens.isSignOf('(');
        }

        private boolean readSaying(Tokens tokens, Plan plan) {
            int what = tokens.value;
            int how = 0;
            tokens.taken = 0;
            tokens.advance();
            if (what == KEY_LOVES || what == KEY_FOLLOWS) {
                if (!tokens.takeSigner(plan)) {
                    return false;
                }
            } else if (what == KEY_ON) {
                if (!tokens.takeNumber(0, MOST_ROWS - 1)) {
                    return false;
                }
            } else if (what >= KEY_EARNEST) {
                how = tokens.value;
                if (!isRelation(tokens)) {
                    return tokens.refuse(CANT_COME);
                }
                tokens.advance();
                if (!tokens.takeNumber(0, 999)) {
                    return false;
                }
            }
            put(what, how, tokens.taken);
            return true;
        }

        private static boolean isRelation(Tokens tokens) {
            return tokens.isSignOf('<') || tokens.isSignOf('=') || tokens.isSignOf('>');
        }

        /** A bracket that closes is behind a whole ONE; one too many is left for takeEnd to refuse. */
        private void closeBrackets(Tokens tokens) {
            for (int i = 0; i < MOST_WITHIN && within > 0 && tokens.isSignOf(')'); i++) {
                settle(NONE);
                if (delays > 0) {
                    delays--;
                    within--;
                }
                settleNots();
                tokens.advance();
            }
        }

        private boolean readJoin(Tokens tokens) {
            if (!tokens.isKey(KEY_AND) && !tokens.isKey(KEY_OR)) {
                return false;
            }
            settle(tokens.value);
            delay(tokens.value);
            tokens.advance();
            return true;
        }

        private boolean settleNots() {
            for (int i = 0; i < MOST_WITHIN && delays > 0 && delayed[delays - 1] == KEY_NOT; i++) {
                delays--;
                within--;
                put(KEY_NOT, 0, 0);
            }
            return true;
        }

        /** Puts the joins that wait back to a bracket; ahead of an 'and' only those that are 'and', too. */
        private void settle(int join) {
            for (int i = 0; i < MOST_CODE && delays > 0; i++) {
                int top = delayed[delays - 1];
                if (top == BRACKET || join == KEY_AND && top == KEY_OR) {
                    return;
                }
                delays--;
                put(top, 0, 0);
            }
        }

        private void delay(int what) {
            if (delays < MOST_CODE) {
                delayed[delays] = what;
                delays++;
            }
        }

        private void put(int what, int how, int much) {
            if (size < MOST_CODE) {
                code[size] = what;
                sign[size] = how;
                number[size] = much;
                size++;
            }
        }

        /** SIGNERS of whom it may be said, as bits. */
        int judge(Plan plan, State state) {
            int all = (1 << plan.signers) - 1;
            int top = 0;
            for (int i = 0; i < size; i++) {
                if (code[i] == KEY_NOT && top > 0) {
                    stack[top - 1] = all & ~stack[top - 1];
                } else if (code[i] == KEY_AND && top > 1) {
                    top--;
                    stack[top - 1] &= stack[top];
                } else if (code[i] == KEY_OR && top > 1) {
                    top--;
                    stack[top - 1] |= stack[top];
                } else {
                    stack[top] = sayOfAll(plan, state, i);
                    top++;
                }
            }
            return top > 0 ? stack[0] : 0;
        }

        private int sayOfAll(Plan plan, State state, int i) {
            int bits = 0;
            for (int s = 0; s < plan.signers; s++) {
                if (isTrueOf(plan, state, i, s)) {
                    bits |= 1 << s;
                }
            }
            return bits;
        }

        private boolean isTrueOf(Plan plan, State state, int i, int s) {
            switch (code[i]) {
                case KEY_DEAD: return !state.lives(s);
                case KEY_FORGED: return (plan.forgers >> s & 1) != 0;
                case KEY_LOVES: return plan.areLovers(s, number[i]);
                case KEY_FOLLOWS: return plan.heir[number[i]] == s;
                case KEY_ON: return isOn(state, number[i], s);
                case KEY_EARNEST: return compares(i, state.earnest[s]);
                case KEY_PLANKS: return compares(i, state.held[s]);
                case KEY_MILES: return compares(i, plan.miles[s]);
                default: return compares(i, s);
            }
        }

        private static boolean isOn(State state, int row, int s) {
            for (int k = 0; k < ROW_PLACES; k++) {
                if (state.owner[ROW_PLACES * row + k] == s) {
                    return true;
                }
            }
            return false;
        }

        private boolean compares(int i, int much) {
            switch (sign[i]) {
                case '<': return much < number[i];
                case '=': return much == number[i];
                default: return much > number[i];
            }
        }
    }
}
