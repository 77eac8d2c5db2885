import java.util.NoSuchElementException;

/**
 * The black mill: a master and his lads, told as a text, and the winters that go by in it. Shared
 * answers: NONE (or HIDDEN, where NONE could be an answer) says that a call was refused.
 */
public final class BlackMill {
    /** None; refused. */
    public static final int NONE = -1;
    /** Not told. */
    public static final int HIDDEN = -1000000;

    private static final int NO_SUCH_SORT = -2;
    private static final int MILL_SORT = 0;
    private static final int LAW_SORT = 1;

    private static final int MOST_BYTES = 240;
    private static final int MOST_LADS = 8;
    private static final int MOST_WAYS = 9;
    private static final int MOST_LAWS = 4;
    private static final int PLACES = 6;

    // What is kept of each lad; the public lad(..) numbers these alike.
    private static final int ART = 0;
    private static final int SHOWN = 1;
    private static final int KIND = 2;
    private static final int FRIEND = 3;
    private static final int AGE = 4;
    private static final int HOW = 5;
    private static final int WARNED = 6;
    private static final int LAD_CELLS = 7;
    private static final int FEAR_ASKED = 7;
    private static final int SIGNS_ASKED = 8;

    private static final int FOOL = 1;
    private static final int OLD = 2;
    private static final int SPY = 3;

    private static final int LIVES = 0;
    private static final int BURIED = 1;
    private static final int LEFT = 2;

    private static final int POWER = 0;
    private static final int LESSON = 1;
    private static final int HOURS = 2;
    private static final int AGEING = 3;

    private static final int MOST_GROWN = 99;
    private static final int MOST_LEARNT = 9;
    private static final int NEW_AGE = 14;
    private static final int LAST_YEAR = 999;
    private static final int MOST_YEARS = 60;

    private static final int NO_SUCH_ONE = 0;
    private static final int LIFE = 1;
    private static final int OUT_OF_BOUNDS = 2;
    private static final int NOT_SO = 3;
    private static final int BEYOND = 4;
    private static final int REFUSALS = 5;

    private static final int MOST_PATH = 5;
    private static final int MOST_HELD = 30;
    private static final int MOST_ODDS = 30;
    private static final int MOST_SPIES = 3;
    private static final int MOST_SHARING = 5;
    private static final int BURIED_IN_GAME = 50;

    private final Tape tape = new Tape();
    private final MillText millText = new MillText();
    private final LawText lawText = new LawText();
    private final Laws laws = new Laws();
    private final int[] master = new int[4];
    private final House house = new House();
    private final House trial = new House();
    private final House keptHouse = new House();
    private final Ledger ledger = new Ledger();
    private final Ledger keptLedger = new Ledger();
    private final Acts acts = new Acts();
    private final Trail trail = new Trail();
    private final Roads roads = new Roads();
    private final Clues clues = new Clues();
    private final int[] refused = new int[REFUSALS];
    private int boldness = 5;
    private boolean imaged;

    public BlackMill() {
    }

    // ---- texts ----

    public int feed(int a, int b, int c, int d, int e) {
        int more = filled(a) + filled(b) + filled(c) + filled(d) + filled(e);
        if (tape.length + more > MOST_BYTES) {
            return NONE;
        }
        tape.addWord(a);
        tape.addWord(b);
        tape.addWord(c);
        tape.addWord(d);
        tape.addWord(e);
        return tape.length;
    }

    public boolean end(int n) {
        if (n < 0 || n > tape.length) {
            return false;
        }
        tape.length = n;
        return true;
    }

    public int fault(int sort) {
        if (sort == MILL_SORT) {
            return millText.read(tape);
        }
        if (sort == LAW_SORT) {
            return lawText.read(tape);
        }
        return NO_SUCH_SORT;
    }

    public int text(int sort) {
        if (sort == MILL_SORT && millText.read(tape) == NONE) {
            found();
            tape.length = 0;
            return house.lads;
        }
        if (sort == LAW_SORT && laws.many < MOST_LAWS && lawText.read(tape) == NONE) {
            tape.length = 0;
            return laws.add(lawText.code, lawText.length);
        }
        return NONE;
    }

    private void found() {
        for (int i = 0; i < master.length; i++) {
            master[i] = at(millText.master, i);
        }
        house.settle(millText);
        roads.build(millText);
        clues.forget();
        acts.forget();
        imaged = false;
    }

    private boolean isTold() {
        return house.lads > 0;
    }

    // ---- what was told ----

    public int master(int what) {
        return isTold() && what >= 0 && what < master.length ? master[what] : NONE;
    }

    public int lad(int lad, int what) throws NoSuchElementException {
        if (!house.has(lad) || what < 0 || what > SIGNS_ASKED) {
            throw new NoSuchElementException("no such lad");
        }
        if (what == FEAR_ASKED) {
            return house.fear(lad);
        }
        return what == SIGNS_ASKED ? house.signs(lad) : house.get(lad, what);
    }

    public int way(int way, int what) {
        boolean is = way >= 0 && way < roads.many && what >= 0 && what < Roads.CELLS;
        return is ? at(roads.cells, way * Roads.CELLS + what) : NONE;
    }

    public boolean law(int law) {
        if (law < NONE || law >= laws.many) {
            return false;
        }
        laws.holding = law;
        return true;
    }

    // ---- acts by hand ----

    public int show(int lad, int v) {
        if (!house.lives(lad)) {
            return refuse(house.has(lad) ? LIFE : NO_SUCH_ONE, HIDDEN);
        }
        if (v < 0 || v > house.get(lad, ART)) {
            return refuse(OUT_OF_BOUNDS, HIDDEN);
        }
        acts.keep(house);
        house.set(lad, SHOWN, v);
        return house.fear(lad);
    }

    public int warn(int lad) {
        if (!house.has(lad)) {
            return refuse(NO_SUCH_ONE, NONE);
        }
        int friend = house.get(lad, FRIEND);
        if (!house.lives(lad) || house.has(friend) && !house.lives(friend)) {
            return refuse(LIFE, NONE);
        }
        if (!house.has(friend) || house.get(friend, WARNED) != 0) {
            return refuse(NOT_SO, NONE);
        }
        acts.keep(house);
        house.set(friend, WARNED, 1);
        return friend;
    }

    public int leave(int lad) {
        if (!house.lives(lad)) {
            return refuse(house.has(lad) ? LIFE : NO_SUCH_ONE, NONE);
        }
        if (house.manyLive() < 2) {
            return refuse(NOT_SO, NONE);
        }
        acts.keep(house);
        house.set(lad, HOW, LEFT);
        return house.manyLive();
    }

    public int come(int lad) {
        if (!house.has(lad) || house.lives(lad)) {
            return refuse(house.has(lad) ? LIFE : NO_SUCH_ONE, NONE);
        }
        acts.keep(house);
        house.welcome(lad);
        return house.manyLive();
    }

    public int years(int n) {
        if (!isTold()) {
            return refuse(NO_SUCH_ONE, NONE);
        }
        if (n < 1 || n > MOST_YEARS) {
            return refuse(OUT_OF_BOUNDS, NONE);
        }
        if (house.year + n > LAST_YEAR) {
            return refuse(BEYOND, NONE);
        }
        for (int i = 0; i < n; i++) {
            acts.keep(house);
            passYear();
        }
        return house.year;
    }

    private void passYear() {
        int buried = house.pass(laws);
        ledger.write(house.year - 1, buried, house.manyLive(), house.artOfAll());
    }

    private int refuse(int why, int answer) {
        put(refused, why, at(refused, why) + 1);
        return answer;
    }

    // ---- winters ----

    public boolean bold(int v) {
        if (v < 0 || v > 9 || v == boldness) {
            return false;
        }
        boldness = v;
        return true;
    }

    public int winters(int n, long seed) {
        if (!isTold() || n < 1 || n > MOST_YEARS || house.year + n > LAST_YEAR) {
            return NONE;
        }
        long x = seed;
        for (int i = 0; i < n; i++) {
            acts.keep(house);
            x = showByDraws(x);
            x = comeByDraws(x);
            passYear();
        }
        return house.year;
    }

    private long showByDraws(long seed) {
        long x = seed;
        for (int i = 0; i < house.lads; i++) {
            if (house.lives(i)) {
                x = stepped(x);
                house.set(i, SHOWN, drawn(x, 10) < boldness ? house.get(i, ART) / 2 : 0);
            }
        }
        return x;
    }

    private long comeByDraws(long seed) {
        long x = seed;
        for (int i = 0; i < house.lads; i++) {
            if (!house.lives(i)) {
                x = stepped(x);
                if (drawn(x, 2) == 1) {
                    house.welcome(i);
                }
            }
        }
        return x;
    }

    private static long stepped(long x) {
        return x * 6364136223846793005L + 1442695040888963407L;
    }

    private static int drawn(long x, int below) {
        return below > 0 ? (int) ((x >>> 33) % below) : 0;
    }

    // ---- what went by ----

    public int status(int what) {
        return what >= 0 && what < refused.length ? refused[what] : NONE;
    }

    public int undo() {
        if (acts.many == 0) {
            return NONE;
        }
        acts.takeBack(house);
        return acts.many;
    }

    public int log(int i, int what) {
        if (i < 0 || i >= logLength() || what < 0 || what >= Ledger.CELLS) {
            return HIDDEN;
        }
        return ledger.read(house.year - 1 - i, what);
    }

    // Each year writes one row, and undo takes back both, so the year tells how long the log is.
    private int logLength() {
        return Math.min(house.year, Ledger.SEEN);
    }

    public int image() {
        if (!isTold()) {
            return NONE;
        }
        keptHouse.copy(house);
        keptLedger.copy(ledger);
        imaged = true;
        return house.year;
    }

    public int back() {
        if (!imaged) {
            return NONE;
        }
        house.copy(keptHouse);
        ledger.copy(keptLedger);
        acts.forget();
        return house.year;
    }

    // ---- who is feared, and for how long ----

    public int chosen() {
        return house.mostFeared(house.living());
    }

    public int order() {
        return isTold() ? house.rankedByFear() : NONE;
    }

    public int safe(int lad) {
        if (!house.lives(lad)) {
            return NONE;
        }
        trial.copy(house);
        for (int v = house.get(lad, ART); v >= 0; v--) {
            trial.set(lad, SHOWN, v);
            if (trial.mostFeared(trial.living()) != lad) {
                return v;
            }
        }
        return NONE;
    }

    public int path(int lad, int n, int what) {
        if (!house.lives(lad) || n < 1 || n > MOST_PATH || what < 0 || what > 1) {
            return NONE;
        }
        trail.search(house, lad, n, laws);
        return what == 0 ? trail.bestRow : trail.mostArt;
    }

    public int holds(int lad) {
        if (!house.lives(lad)) {
            return NONE;
        }
        trial.copy(house);
        for (int year = 1; year <= MOST_HELD; year++) {
            trial.pass(laws);
            if (!trial.lives(lad)) {
                return year;
            }
        }
        return NONE;
    }

    public int odds(int lad, int n) {
        if (!house.lives(lad) || n < 0 || n > MOST_ODDS) {
            return NONE;
        }
        long own = house.fear(lad) + 1;
        long all = house.lotsOfAll();
        long left = 1000000000L;
        for (int i = 0; i < n && all > 0; i++) {
            left -= left * own / all;
        }
        return (int) left;
    }

    public int learns(int lad) {
        return house.lives(lad) ? laws.lessonOf(house, lad, house.manyLive()) : NONE;
    }

    // ---- who is told from whom, who trusts whom ----

    public int tells(int lad) {
        return house.lives(lad) ? house.tellingSigns(lad) : NONE;
    }

    public int twins(int i) {
        if (!isTold() || i < NONE) {
            return NONE;
        }
        int many = 0;
        for (int one = 0; one < house.lads; one++) {
            for (int other = one + 1; other < house.lads; other++) {
                if (house.areTwins(one, other)) {
                    if (many == i) {
                        return one * 10 + other;
                    }
                    many++;
                }
            }
        }
        return i == NONE ? many : NONE;
    }

    public int chain(int one, int other) {
        return house.lives(one) && house.lives(other) ? house.stepsBetween(one, other) : NONE;
    }

    public int trusts(int lad) {
        return house.lives(lad) ? house.trusted(lad) : NONE;
    }

    public int friends(int lad) {
        return house.has(lad) ? house.befriending(lad) : NONE;
    }

    // ---- spies and graves ----

    public int out(int lads, boolean is) {
        return lads > 0 && lads < 1 << house.lads ? clues.addSecret(lads, is) : NONE;
    }

    private boolean asksForSpies(int k) {
        return isTold() && k >= 1 && k <= MOST_SPIES;
    }

    public int spies(int k, int i) {
        if (!asksForSpies(k) || i < NONE) {
            return NONE;
        }
        return i == NONE ? clues.manyFitting(k, house.lads) : clues.fitting(k, house.lads, i);
    }

    public int clear(int k) {
        if (!asksForSpies(k) || clues.manyFitting(k, house.lads) == 0) {
            return NONE;
        }
        int free = 0;
        for (int i = 0; i < house.lads; i++) {
            if (clues.manyFittingWith(k, house.lads, i) == 0) {
                free |= 1 << i;
            }
        }
        return free;
    }

    public int best(int k) {
        if (!asksForSpies(k)) {
            return NONE;
        }
        int all = clues.manyFitting(k, house.lads);
        int best = NONE;
        int least = 0;
        for (int i = 0; i < house.lads && all > 0; i++) {
            int apart = Math.abs(all - 2 * clues.manyFittingWith(k, house.lads, i));
            if (best == NONE || apart < least) {
                best = i;
                least = apart;
            }
        }
        return best;
    }

    public int grave(int sort, int a, boolean is) {
        boolean fits = isTold() && (sort == Clues.BY_AGE || sort == Clues.BY_ART);
        return fits && a >= 0 && a <= MOST_GROWN ? clues.addGrave(sort, a, is) : NONE;
    }

    public int dug() {
        return isTold() ? clues.diggers(house) : NONE;
    }

    // ---- flights ----

    public int flight(int place) {
        return isTold() ? roads.hoursTo(place) : NONE;
    }

    public int reach() {
        if (!isTold()) {
            return NONE;
        }
        int bits = 0;
        for (int i = 0; i < PLACES; i++) {
            int hours = roads.hoursTo(i);
            if (hours != NONE && 2 * hours <= at(master, HOURS)) {
                bits |= 1 << i;
            }
        }
        return bits;
    }

    // ---- daring and games ----

    public int dare() {
        return isTold() ? house.fewestWith(at(master, POWER)) : NONE;
    }

    public int shares(int lad) {
        if (!house.lives(lad) || house.manyLive() > MOST_SHARING) {
            return HIDDEN;
        }
        return house.turningOrders(lad, at(master, POWER));
    }

    private boolean canPlay(int one, int other) {
        return one != other && house.lives(one) && house.lives(other);
    }

    public int game(int one, int other, int x, int y, int what) {
        if (!canPlay(one, other) || x < 0 || x > 1 || y < 0 || y > 1 || what < 0 || what > 1) {
            return HIDDEN;
        }
        return played(one, other, x, y, what);
    }

    private int played(int one, int other, int x, int y, int what) {
        trial.copy(house);
        trial.set(one, SHOWN, x == 1 ? trial.get(one, ART) : 0);
        trial.set(other, SHOWN, y == 1 ? trial.get(other, ART) : 0);
        int asked = what == 0 ? one : other;
        int learnt = laws.lessonOf(trial, asked, trial.manyLive());
        return trial.mostFeared(trial.living()) == asked ? learnt - BURIED_IN_GAME : learnt;
    }

    public int rests(int one, int other, int i) {
        if (!canPlay(one, other) || i < NONE) {
            return NONE;
        }
        int many = 0;
        for (int play = 0; play < 4; play++) {
            int x = play / 2;
            int y = play % 2;
            if (isRest(one, other, x, y)) {
                if (many == i) {
                    return 10 * x + y;
                }
                many++;
            }
        }
        return i == NONE ? many : NONE;
    }

    private boolean isRest(int one, int other, int x, int y) {
        return played(one, other, x, y, 0) >= played(one, other, 1 - x, y, 0)
            && played(one, other, x, y, 1) >= played(one, other, x, 1 - y, 1);
    }

    // ---- of all and of one ----

    public int ablest() {
        return house.mostOf(ART);
    }

    public int oldest() {
        return house.mostOf(AGE);
    }

    public int hides(int lad) {
        return house.lives(lad) ? house.get(lad, ART) - house.get(lad, SHOWN) : NONE;
    }

    public int count(int what) {
        switch (what) {
            case 0: return house.lads;
            case 1: return roads.many;
            case 2: return laws.many;
            case 3: return tape.length;
            case 4: return laws.holding;
            case 5: return house.year;
            case 6: return house.living();
            case 7: return house.artOfAll();
            case 8: return house.warned();
            case 9: return boldness;
            case 10: return clues.secrets;
            case 11: return clues.graves;
            case 12: return logLength();
            case 13: return acts.many;
            default: return HIDDEN;
        }
    }

    // ---- shared by all ----

    private static int at(int[] row, int i) {
        return i >= 0 && i < row.length ? row[i] : 0;
    }

    private static void put(int[] row, int i, int v) {
        if (i >= 0 && i < row.length) {
            row[i] = v;
        }
    }

    private static void move(int[] from, int start, int[] to, int place, int many) {
        if (start < 0 || place < 0 || many < 0) {
            return;
        }
        if (many <= from.length - start && many <= to.length - place) {
            System.arraycopy(from, start, to, place, many);
        }
    }

    private static int within(int least, int most, int v) {
        return Math.max(least, Math.min(most, v));
    }

    private static int filled(int word) {
        int many = 0;
        for (int shift = 0; shift < 32; shift += 8) {
            if ((word >>> shift & 255) != 0) {
                many++;
            }
        }
        return many;
    }

    private static int placeIn(String letters, int sign) {
        for (int i = 0; i < letters.length(); i++) {
            if (letters.charAt(i) == sign) {
                return i;
            }
        }
        return NONE;
    }

    private static boolean isDigit(int sign) {
        return sign >= '0' && sign <= '9';
    }

    /** The bytes fed so far, and a walk over them that stops at the first fault. */
    private static final class Tape {
        private static final int OVER = -1;

        private final int[] bytes = new int[MOST_BYTES];
        private int length;
        private int place;
        private int bad = NONE;

        void addWord(int word) {
            for (int shift = 24; shift >= 0; shift -= 8) {
                int one = word >>> shift & 255;
                if (one != 0 && length < bytes.length) {
                    put(bytes, length, one);
                    length++;
                }
            }
        }

        void begin() {
            place = 0;
            bad = NONE;
        }

        /** The sign to come; OVER behind the last one, and behind a fault, so that all reading ends there. */
        int sign() {
            while (place >= 0 && place < length && place < bytes.length && bytes[place] == ' ') {
                place++;
            }
            if (bad != NONE || place < 0 || place >= length || place >= bytes.length) {
                return OVER;
            }
            return bytes[place];
        }

        void step() {
            place++;
        }

        void failAt(int where) {
            if (bad == NONE) {
                bad = where;
            }
        }

        void fail() {
            failAt(place);
        }

        void want(int due) {
            if (sign() == due) {
                step();
            } else {
                fail();
            }
        }

        void wantOver() {
            if (sign() != OVER) {
                fail();
            }
        }

        /** A number of so many digits at most; one digit more is itself the fault. */
        int number(int digits) {
            if (!isDigit(sign())) {
                fail();
                return 0;
            }
            int value = 0;
            int start = place;
            for (; place < length && isDigit(at(bytes, place)); place++) {
                if (place - start == digits) {
                    fail();
                    return value;
                }
                value = value * 10 + at(bytes, place) - '0';
            }
            return value;
        }
    }

    /** Reads the tape as a mill, into rows of its own, so that a faulty text changes no mill. */
    private static final class MillText {
        private static final int LAD_ITEMS = 5;
        private static final int WAY_ITEMS = 3;
        private static final int NO_FRIEND = 8;
        private static final String MASTER_LETTERS = "plhy";
        private static final String LAD_LETTERS = "askfo";
        private static final String WAY_LETTERS = "abh";
        private static final int[] MASTER_LEAST = {1, 1, 1, 1};
        private static final int[] MASTER_MOST = {99, 9, 20, 9};
        private static final int[] MASTER_USUAL = {40, 2, 6, 3};
        private static final int[] LAD_LEAST = {0, 0, 0, 0, 10};
        private static final int[] LAD_MOST = {60, 60, 3, 8, 60};
        private static final int[] LAD_USUAL = {10, 5, 0, 8, 14};
        private static final int[] WAY_LEAST = {0, 0, 1};
        private static final int[] WAY_MOST = {5, 5, 9};
        private static final int[] WAY_USUAL = {0, 1, 2};

        private final int[] master = new int[4];
        private final int[] lads = new int[MOST_LADS * LAD_ITEMS];
        private final int[] ways = new int[MOST_WAYS * WAY_ITEMS];
        private boolean mastered;
        private int manyLads;
        private int manyWays;

        /** Where the fault is, or NONE. */
        int read(Tape tape) {
            tape.begin();
            mastered = false;
            manyLads = 0;
            manyWays = 0;
            move(MASTER_USUAL, 0, master, 0, MASTER_USUAL.length);
            clause(tape);
            for (int i = 0; i < MOST_BYTES && tape.sign() == ';'; i++) {
                tape.step();
                clause(tape);
            }
            tape.wantOver();
            if (!isWhole()) {
                tape.failAt(tape.length);
            }
            return tape.bad;
        }

        private void clause(Tape tape) {
            int sign = tape.sign();
            if (sign == 's' && !mastered) {
                mastered = true;
                tape.step();
                items(tape, MASTER_LETTERS, MASTER_LEAST, MASTER_MOST, master, 0);
            } else if (sign == 'l' && manyLads < MOST_LADS) {
                int from = manyLads * LAD_ITEMS;
                manyLads++;
                tape.step();
                move(LAD_USUAL, 0, lads, from, LAD_ITEMS);
                items(tape, LAD_LETTERS, LAD_LEAST, LAD_MOST, lads, from);
            } else if (sign == 'w' && manyWays < MOST_WAYS) {
                int from = manyWays * WAY_ITEMS;
                manyWays++;
                tape.step();
                move(WAY_USUAL, 0, ways, from, WAY_ITEMS);
                items(tape, WAY_LETTERS, WAY_LEAST, WAY_MOST, ways, from);
            } else {
                tape.fail();
            }
        }

        // A letter that was there ends the items, and what reads on takes it for a fault.
        private static void items(Tape tape, String letters, int[] least, int[] most, int[] row, int from) {
            int had = 0;
            for (int i = 0; i < letters.length(); i++) {
                int which = placeIn(letters, tape.sign());
                if (which == NONE || (had >>> which & 1) != 0) {
                    return;
                }
                had |= 1 << which;
                tape.step();
                int value = tape.number(2);
                if (value < at(least, which) || value > at(most, which)) {
                    tape.failAt(tape.place - 1);
                }
                put(row, from + which, value);
            }
        }

        private boolean isWhole() {
            boolean whole = manyLads >= 2;
            for (int i = 0; i < manyLads; i++) {
                int friend = item(i, FRIEND);
                boolean known = friend == NO_FRIEND || friend < manyLads && friend != i;
                whole = whole && known && item(i, SHOWN) <= item(i, ART);
            }
            for (int i = 0; i < manyWays; i++) {
                whole = whole && at(ways, i * WAY_ITEMS) != at(ways, i * WAY_ITEMS + 1);
            }
            return whole;
        }

        int item(int lad, int what) {
            return at(lads, lad * LAD_ITEMS + what);
        }
    }

    /** Reads the tape as a law, and writes it down so that each sign stands behind what it works on. */
    private static final class LawText {
        private static final int MOST_DIGITS = 4;
        private static final int MOST_NESTED = 6;
        private static final String LETTERS = "askoyn";

        private final int[] code = new int[MOST_BYTES];
        private int length;

        /** Where the fault is, or NONE. */
        int read(Tape tape) {
            tape.begin();
            length = 0;
            clause(tape);
            for (int i = 0; i < MOST_BYTES && tape.sign() == ';'; i++) {
                tape.step();
                clause(tape);
            }
            tape.wantOver();
            return tape.bad;
        }

        private void write(int sign) {
            put(code, length, sign);
            length++;
        }

        private void clause(Tape tape) {
            tape.want('y');
            tape.want(':');
            int sign = tape.sign();
            boolean begun = sign != '!' && sign != '(';
            if (begun) {
                sum(tape, 0);
            }
            if (!begun || isRelation(tape.sign())) {
                condition(tape, 0, begun);
                tape.want('?');
                write(Laws.CONDITION_OVER);
                sum(tape, 0);
            }
            write(Laws.CLAUSE_OVER);
        }

        // Behind the colon only the sign behind a sum tells whether a condition has begun with it.
        private void condition(Tape tape, int depth, boolean begun) {
            truth(tape, depth, begun);
            for (int i = 0; i < MOST_BYTES && tape.sign() == '|'; i++) {
                tape.step();
                truth(tape, depth, false);
                write(Laws.SIGN + '|');
            }
        }

        private void truth(Tape tape, int depth, boolean begun) {
            unit(tape, depth, begun);
            for (int i = 0; i < MOST_BYTES && tape.sign() == '&'; i++) {
                tape.step();
                unit(tape, depth, false);
                write(Laws.SIGN + '&');
            }
        }

        private void unit(Tape tape, int depth, boolean begun) {
            int sign = tape.sign();
            if (!begun && (sign == '!' || sign == '(')) {
                if (mayNest(tape, depth)) {
                    nested(tape, depth + 1, sign);
                }
                return;
            }
            if (!begun) {
                sum(tape, depth);
            }
            int relation = tape.sign();
            if (!isRelation(relation)) {
                tape.fail();
                return;
            }
            tape.step();
            sum(tape, depth);
            write(Laws.SIGN + relation);
        }

        private void nested(Tape tape, int depth, int opening) {
            if (opening == '!') {
                unit(tape, depth, false);
                write(Laws.SIGN + '!');
            } else {
                condition(tape, depth, false);
                tape.want(')');
            }
        }

        private static boolean isRelation(int sign) {
            return sign == '=' || sign == '<' || sign == '>';
        }

        private static boolean mayNest(Tape tape, int depth) {
            if (depth >= MOST_NESTED) {
                tape.fail();
                return false;
            }
            tape.step();
            return true;
        }

        private void sum(Tape tape, int depth) {
            term(tape, depth);
            int sign = tape.sign();
            for (int i = 0; i < MOST_BYTES && (sign == '+' || sign == '-'); i++) {
                tape.step();
                term(tape, depth);
                write(Laws.SIGN + sign);
                sign = tape.sign();
            }
        }

        private void term(Tape tape, int depth) {
            atom(tape, depth);
            int sign = tape.sign();
            for (int i = 0; i < MOST_BYTES && (sign == '*' || sign == '/'); i++) {
                tape.step();
                atom(tape, depth);
                write(Laws.SIGN + sign);
                sign = tape.sign();
            }
        }

        private void atom(Tape tape, int depth) {
            int sign = tape.sign();
            int letter = placeIn(LETTERS, sign);
            if (isDigit(sign)) {
                write(tape.number(MOST_DIGITS));
            } else if (letter != NONE) {
                tape.step();
                write(Laws.LETTER + letter);
            } else if (sign != '[') {
                tape.fail();
            } else if (mayNest(tape, depth)) {
                sum(tape, depth + 1);
                tape.want(']');
            }
        }
    }

    /** The laws as they were written down, and what a lad learns by the one that holds. */
    private static final class Laws {
        // Numbers stand for themselves, up to 9999; signs and letters begin behind them.
        static final int SIGN = 10000;
        static final int LETTER = 20000;
        static final int CLAUSE_OVER = SIGN + ';';
        static final int CONDITION_OVER = SIGN + '?';
        private static final int FARTHEST = 1000000;
        private static final int STACK = 64;

        private final int[] codes = new int[MOST_LAWS * MOST_BYTES];
        private final int[] lengths = new int[MOST_LAWS];
        private final int[] letters = new int[6];
        private final int[] stack = new int[STACK];
        private int top;
        private int many;
        private int holding = NONE;

        int add(int[] code, int length) {
            int law = many;
            move(code, 0, codes, law * MOST_BYTES, length);
            put(lengths, law, length);
            many++;
            return law;
        }

        /** What a lad learns in the year that begins, with so many who live. */
        int lessonOf(House house, int lad, int manyLive) {
            if (holding == NONE) {
                return within(0, MOST_LEARNT, house.lesson + house.get(lad, SHOWN) / 10);
            }
            put(letters, 0, house.get(lad, ART));
            put(letters, 1, house.get(lad, SHOWN));
            put(letters, 2, house.get(lad, KIND));
            put(letters, 3, house.get(lad, AGE));
            put(letters, 4, house.year);
            put(letters, 5, manyLive);
            return within(0, MOST_LEARNT, worth());
        }

        // Where a condition fails, all up to the end of its clause is left out: no jumps are kept.
        private int worth() {
            int from = holding * MOST_BYTES;
            int until = from + at(lengths, holding);
            boolean skips = false;
            top = 0;
            for (int i = from; i < until; i++) {
                int sign = at(codes, i);
                if (sign == CLAUSE_OVER) {
                    if (!skips) {
                        return pop();
                    }
                    skips = false;
                } else if (!skips) {
                    if (sign == CONDITION_OVER) {
                        skips = pop() == 0;
                    } else {
                        work(sign);
                    }
                }
            }
            return 0;
        }

        private void work(int sign) {
            if (sign < SIGN) {
                push(sign);
            } else if (sign >= LETTER) {
                push(at(letters, sign - LETTER));
            } else if (sign == SIGN + '!') {
                push(1 - pop());
            } else {
                int right = pop();
                int left = pop();
                push(held(result(sign - SIGN, left, right)));
            }
        }

        private static long result(int sign, long left, long right) {
            switch (sign) {
                case '+': return left + right;
                case '-': return left - right;
                case '*': return left * right;
                case '/': return right == 0 ? 0 : left / right;
                case '=': return left == right ? 1 : 0;
                case '<': return left < right ? 1 : 0;
                case '>': return left > right ? 1 : 0;
                case '&': return left & right;
                case '|': return left | right;
                default: return 0;
            }
        }

        private static int held(long v) {
            return (int) Math.max(-FARTHEST, Math.min(FARTHEST, v));
        }

        private void push(int v) {
            if (top >= 0 && top < stack.length) {
                stack[top] = v;
                top++;
            }
        }

        private int pop() {
            if (top <= 0 || top > stack.length) {
                return 0;
            }
            top--;
            return stack[top];
        }
    }

    /** The lads as they are in one year, and what can be seen by them alone. */
    private static final class House {
        private static final int SIGNS = 6;
        private static final int[] FACTORIALS = {1, 1, 2, 6, 24};

        private final int[] cells = new int[MOST_LADS * LAD_CELLS];
        private int lads;
        private int year;
        private int lesson;
        private int ageing;

        void settle(MillText told) {
            lads = told.manyLads;
            year = 0;
            lesson = at(told.master, LESSON);
            ageing = at(told.master, AGEING);
            for (int i = 0; i < lads; i++) {
                for (int what = ART; what <= AGE; what++) {
                    set(i, what, told.item(i, what));
                }
                if (told.item(i, FRIEND) == MillText.NO_FRIEND) {
                    set(i, FRIEND, NONE);
                }
                set(i, HOW, LIVES);
                set(i, WARNED, 0);
            }
        }

        void copy(House other) {
            move(other.cells, 0, cells, 0, cells.length);
            lads = other.lads;
            year = other.year;
            lesson = other.lesson;
            ageing = other.ageing;
        }

        int get(int lad, int what) {
            int i = lad * LAD_CELLS + what;
            return i >= 0 && i < cells.length ? cells[i] : 0;
        }

        void set(int lad, int what, int v) {
            put(cells, lad * LAD_CELLS + what, v);
        }

        boolean has(int lad) {
            return lad >= 0 && lad < lads;
        }

        boolean lives(int lad) {
            return has(lad) && get(lad, HOW) == LIVES;
        }

        int living() {
            int bits = 0;
            for (int i = 0; i < lads; i++) {
                if (lives(i)) {
                    bits |= 1 << i;
                }
            }
            return bits;
        }

        int manyLive() {
            return Integer.bitCount(living());
        }

        int warned() {
            int bits = 0;
            for (int i = 0; i < lads; i++) {
                if (get(i, WARNED) != 0) {
                    bits |= 1 << i;
                }
            }
            return bits;
        }

        int artOfAll() {
            return artOf(living());
        }

        private int artOf(int some) {
            int art = 0;
            for (int i = 0; i < lads; i++) {
                if ((some >>> i & 1) != 0) {
                    art += get(i, ART);
                }
            }
            return art;
        }

        void welcome(int lad) {
            set(lad, ART, 0);
            set(lad, SHOWN, 0);
            set(lad, KIND, 0);
            set(lad, FRIEND, NONE);
            set(lad, AGE, NEW_AGE);
            set(lad, HOW, LIVES);
            set(lad, WARNED, 0);
        }

        /** One year goes by: who is buried in it. */
        int pass(Laws laws) {
            int manyLive = manyLive();
            for (int i = 0; i < lads; i++) {
                if (lives(i)) {
                    grow(i, laws.lessonOf(this, i, manyLive));
                }
            }
            int buried = manyLive > 1 ? mostFeared(living()) : NONE;
            if (has(buried)) {
                set(buried, HOW, BURIED);
            }
            for (int i = 0; i < lads; i++) {
                set(i, WARNED, 0);
            }
            year++;
            return buried;
        }

        private void grow(int lad, int learnt) {
            int older = get(lad, KIND) == OLD ? 2 * ageing : ageing;
            set(lad, ART, Math.min(MOST_GROWN, get(lad, ART) + learnt));
            set(lad, AGE, Math.min(MOST_GROWN, get(lad, AGE) + older));
        }

        int fear(int lad) {
            int kind = get(lad, KIND);
            if (kind == SPY) {
                return -1;
            }
            int fear = get(lad, SHOWN);
            if (kind == FOOL) {
                fear /= 2;
            }
            if (get(lad, WARNED) != 0) {
                fear /= 2;
            }
            return kind == OLD ? fear + 10 : fear;
        }

        int mostFeared(int some) {
            int most = NONE;
            for (int i = 0; i < lads; i++) {
                if ((some >>> i & 1) != 0 && (most == NONE || fear(i) > fear(most))) {
                    most = i;
                }
            }
            return most;
        }

        int rankedByFear() {
            int left = living();
            int digits = 0;
            for (int i = Integer.bitCount(left); i > 0; i--) {
                int most = mostFeared(left);
                digits = digits * 10 + most;
                left &= ~(1 << most);
            }
            return digits;
        }

        /** All lots in the drawing: one more than its fear for each who lives. */
        int lotsOfAll() {
            int all = 0;
            for (int i = 0; i < lads; i++) {
                if (lives(i)) {
                    all += fear(i) + 1;
                }
            }
            return all;
        }

        int mostOf(int what) {
            int most = NONE;
            for (int i = 0; i < lads; i++) {
                if (lives(i) && (most == NONE || get(i, what) > get(most, what))) {
                    most = i;
                }
            }
            return most;
        }

        int befriending(int lad) {
            int bits = 0;
            for (int i = 0; i < lads; i++) {
                if (get(i, FRIEND) == lad) {
                    bits |= 1 << i;
                }
            }
            return bits;
        }

        int signs(int lad) {
            int bits = get(lad, ART) >= 20 ? 1 : 0;
            bits |= get(lad, SHOWN) >= 10 ? 2 : 0;
            bits |= get(lad, AGE) >= 20 ? 4 : 0;
            bits |= get(lad, KIND) > 0 ? 8 : 0;
            bits |= lives(get(lad, FRIEND)) ? 16 : 0;
            bits |= (befriending(lad) & living()) != 0 ? 32 : 0;
            return bits;
        }

        int tellingSigns(int lad) {
            int fewest = NONE;
            for (int some = 0; some < 1 << SIGNS; some++) {
                boolean fewer = fewest == NONE || Integer.bitCount(some) < Integer.bitCount(fewest);
                if (fewer && differsFromAll(lad, some)) {
                    fewest = some;
                }
            }
            return fewest;
        }

        private boolean differsFromAll(int lad, int some) {
            int own = signs(lad);
            for (int i = 0; i < lads; i++) {
                if (i != lad && lives(i) && ((own ^ signs(i)) & some) == 0) {
                    return false;
                }
            }
            return true;
        }

        boolean areTwins(int one, int other) {
            return lives(one) && lives(other) && signs(one) == signs(other);
        }

        int stepsBetween(int one, int other) {
            int now = one;
            for (int steps = 0; steps < lads && lives(now); steps++) {
                if (now == other) {
                    return steps;
                }
                now = get(now, FRIEND);
            }
            return NONE;
        }

        int trusted(int lad) {
            int bits = 1 << lad;
            int now = get(lad, FRIEND);
            for (int i = 0; i < lads && lives(now) && get(now, KIND) != SPY; i++) {
                bits |= 1 << now;
                now = get(now, FRIEND);
            }
            return bits;
        }

        int fewestWith(int power) {
            int living = living();
            int fewest = NONE;
            for (int some = 1; some < 1 << lads; some++) {
                boolean fewer = fewest == NONE || Integer.bitCount(some) < Integer.bitCount(fewest);
                if (fewer && (some & ~living) == 0 && artOf(some) >= power) {
                    fewest = some;
                }
            }
            return fewest;
        }

        // Orders are counted by who stands ahead of the lad: those can stand in any order, and so can the rest.
        int turningOrders(int lad, int power) {
            int others = living() & ~(1 << lad);
            int manyOthers = Integer.bitCount(others);
            int orders = 0;
            for (int ahead = 0; ahead < 1 << lads; ahead++) {
                int art = artOf(ahead);
                if ((ahead & ~others) == 0 && art < power && art + get(lad, ART) >= power) {
                    int many = Integer.bitCount(ahead);
                    orders += at(FACTORIALS, many) * at(FACTORIALS, manyOthers - many);
                }
            }
            return orders;
        }
    }

    /** What each year brought: a ring long enough that 40 years undone bring the 60 ahead of them back. */
    private static final class Ledger {
        static final int CELLS = 3;
        static final int SEEN = 60;
        private static final int KEPT = SEEN + Acts.MOST;

        private final int[] rows = new int[KEPT * CELLS];

        void write(int year, int buried, int living, int art) {
            int from = year % KEPT * CELLS;
            put(rows, from, buried);
            put(rows, from + 1, living);
            put(rows, from + 2, art);
        }

        int read(int year, int what) {
            return at(rows, year % KEPT * CELLS + what);
        }

        void copy(Ledger other) {
            move(other.rows, 0, rows, 0, rows.length);
        }
    }

    /** The house as it was ahead of each of the latest acts. */
    private static final class Acts {
        static final int MOST = 40;
        private static final int CELLS = MOST_LADS * LAD_CELLS;

        private final int[] cells = new int[MOST * CELLS];
        private final int[] yearsThen = new int[MOST];
        private int next;
        private int many;

        void forget() {
            many = 0;
        }

        void keep(House house) {
            move(house.cells, 0, cells, next * CELLS, CELLS);
            put(yearsThen, next, house.year);
            next = (next + 1) % MOST;
            many = Math.min(MOST, many + 1);
        }

        void takeBack(House house) {
            next = (next + MOST - 1) % MOST;
            move(cells, next * CELLS, house.cells, 0, CELLS);
            house.year = at(yearsThen, next);
            many--;
        }
    }

    /** Tries all that one lad can show over some years. */
    private static final class Trail {
        private final House[] steps = new House[MOST_PATH + 1];
        private int bestRow;
        private int mostArt;

        Trail() {
            for (int i = 0; i < steps.length; i++) {
                steps[i] = new House();
            }
        }

        void search(House from, int lad, int n, Laws laws) {
            bestRow = NONE;
            mostArt = NONE;
            House first = stepAt(0);
            if (first != null) {
                first.copy(from);
                tread(lad, 0, n, 0, laws);
            }
        }

        private House stepAt(int i) {
            return i >= 0 && i < steps.length ? steps[i] : null;
        }

        // Rows are tried from the least on, so that the first of several with the most art stays.
        private void tread(int lad, int depth, int n, int row, Laws laws) {
            House now = stepAt(depth);
            House then = stepAt(depth + 1);
            if (now == null) {
                return;
            }
            if (depth == n) {
                if (now.get(lad, ART) > mostArt) {
                    mostArt = now.get(lad, ART);
                    bestRow = row;
                }
                return;
            }
            for (int how = 0; how <= 2 && then != null; how++) {
                then.copy(now);
                then.set(lad, SHOWN, then.get(lad, ART) * how / 2);
                then.pass(laws);
                if (then.lives(lad)) {
                    tread(lad, depth + 1, n, row * 10 + how, laws);
                }
            }
        }
    }

    /** The ways between the places, and how long a flight takes by them. */
    private static final class Roads {
        static final int CELLS = 3;

        private final int[] cells = new int[MOST_WAYS * CELLS];
        private final int[] hours = new int[PLACES];
        private int many;

        void build(MillText told) {
            many = told.manyWays;
            move(told.ways, 0, cells, 0, cells.length);
            for (int i = 1; i < hours.length; i++) {
                hours[i] = NONE;
            }
            // No shortest flight takes more ways than there are other places.
            for (int round = 1; round < PLACES; round++) {
                for (int way = 0; way < many; way++) {
                    int from = at(cells, way * CELLS);
                    int to = at(cells, way * CELLS + 1);
                    int more = at(cells, way * CELLS + 2);
                    shorten(from, to, more);
                    shorten(to, from, more);
                }
            }
        }

        private void shorten(int from, int to, int more) {
            int there = at(hours, from) + more;
            if (at(hours, from) != NONE && (at(hours, to) == NONE || there < at(hours, to))) {
                put(hours, to, there);
            }
        }

        int hoursTo(int place) {
            return place >= 0 && place < hours.length ? hours[place] : NONE;
        }
    }

    /** What got out and who dug, as far as it is known. */
    private static final class Clues {
        static final int BY_AGE = 0;
        static final int BY_ART = 1;
        private static final int MOST = 10;

        private final int[] knowing = new int[MOST];
        private final boolean[] gotOut = new boolean[MOST];
        private final int[] sorts = new int[MOST];
        private final int[] bounds = new int[MOST];
        private final boolean[] reached = new boolean[MOST];
        private int secrets;
        private int graves;

        void forget() {
            secrets = 0;
            graves = 0;
        }

        int addSecret(int lads, boolean is) {
            if (secrets < 0 || secrets >= gotOut.length) {
                return NONE;
            }
            put(knowing, secrets, lads);
            gotOut[secrets] = is;
            secrets++;
            return secrets;
        }

        private boolean fits(int spies) {
            for (int i = 0; i < secrets && i < gotOut.length; i++) {
                if ((at(knowing, i) & spies) != 0 != gotOut[i]) {
                    return false;
                }
            }
            return true;
        }

        private boolean fits(int spies, int k) {
            return Integer.bitCount(spies) == k && fits(spies);
        }

        int manyFitting(int k, int lads) {
            int many = 0;
            for (int some = 1; some < 1 << lads; some++) {
                if (fits(some, k)) {
                    many++;
                }
            }
            return many;
        }

        int manyFittingWith(int k, int lads, int one) {
            int many = 0;
            for (int some = 1; some < 1 << lads; some++) {
                if ((some >>> one & 1) != 0 && fits(some, k)) {
                    many++;
                }
            }
            return many;
        }

        int fitting(int k, int lads, int i) {
            int many = 0;
            for (int some = 1; some < 1 << lads; some++) {
                if (fits(some, k)) {
                    if (many == i) {
                        return some;
                    }
                    many++;
                }
            }
            return NONE;
        }

        int addGrave(int sort, int bound, boolean is) {
            if (graves < 0 || graves >= reached.length) {
                return NONE;
            }
            put(sorts, graves, sort);
            put(bounds, graves, bound);
            reached[graves] = is;
            graves++;
            return graves;
        }

        int diggers(House house) {
            int bits = 0;
            for (int i = 0; i < house.lads; i++) {
                if (couldDig(house, i)) {
                    bits |= 1 << i;
                }
            }
            return bits;
        }

        private boolean couldDig(House house, int lad) {
            for (int i = 0; i < graves && i < reached.length; i++) {
                int has = house.get(lad, at(sorts, i) == BY_AGE ? AGE : ART);
                if (has >= at(bounds, i) != reached[i]) {
                    return false;
                }
            }
            return true;
        }
    }
}
