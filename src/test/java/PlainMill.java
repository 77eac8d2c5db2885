import java.math.BigInteger;
import java.util.ArrayDeque;
import java.util.ArrayList;
import java.util.Arrays;
import java.util.Collections;
import java.util.Comparator;
import java.util.Deque;
import java.util.HashMap;
import java.util.List;
import java.util.Map;

/**
 * The document once more, told as plainly as the whole Java library allows: whole states are copied,
 * all orders and all rows are tried. It is there to be asked the same as BlackMill in ModelTest.
 */
final class PlainMill {
    static final int NONE = -1;
    static final int HIDDEN = -1000000;

    static final class Lad {
        int art;
        int shown;
        int kind;
        int friend;
        int age;
        int how;
        boolean warned;

        Lad copy() {
            Lad copy = new Lad();
            copy.art = art;
            copy.shown = shown;
            copy.kind = kind;
            copy.friend = friend;
            copy.age = age;
            copy.how = how;
            copy.warned = warned;
            return copy;
        }
    }

    static final class State {
        List<Lad> lads = new ArrayList<>();
        int year;
        List<int[]> log = new ArrayList<>();

        State copy() {
            State copy = new State();
            for (Lad lad : lads) {
                copy.lads.add(lad.copy());
            }
            copy.year = year;
            copy.log.addAll(log);
            return copy;
        }
    }

    private final StringBuilder tape = new StringBuilder();
    private final List<String> laws = new ArrayList<>();
    private final int[] status = new int[5];
    private int holding = NONE;
    private int bold = 5;
    private State now = new State();
    private State kept;
    private Deque<State> past = new ArrayDeque<>();
    private Map<Character, Integer> master = new HashMap<>();
    private List<int[]> ways = new ArrayList<>();
    private List<int[]> outs = new ArrayList<>();
    private List<int[]> graves = new ArrayList<>();

    // ---- texts ----

    int feed(int a, int b, int c, int d, int e) {
        StringBuilder more = new StringBuilder();
        for (int word : new int[] {a, b, c, d, e}) {
            for (int i = 3; i >= 0; i--) {
                char one = (char) (word >> 8 * i & 255);
                if (one != 0) {
                    more.append(one);
                }
            }
        }
        if (tape.length() + more.length() > 240) {
            return NONE;
        }
        return tape.append(more).length();
    }

    boolean end(int n) {
        if (n < 0 || n > tape.length()) {
            return false;
        }
        tape.setLength(n);
        return true;
    }

    int fault(int sort) {
        if (sort == 0) {
            return PlainTexts.millFault(tape.toString());
        }
        return sort == 1 ? PlainTexts.lawFault(tape.toString()) : -2;
    }

    int text(int sort) {
        if (sort != 0 && sort != 1 || fault(sort) != NONE) {
            return NONE;
        }
        if (sort == 1) {
            if (laws.size() == 4) {
                return NONE;
            }
            laws.add(tape.toString());
            tape.setLength(0);
            return laws.size() - 1;
        }
        found(tape.toString().replace(" ", ""));
        tape.setLength(0);
        return now.lads.size();
    }

    private void found(String text) {
        now = new State();
        past = new ArrayDeque<>();
        kept = null;
        ways = new ArrayList<>();
        outs = new ArrayList<>();
        graves = new ArrayList<>();
        master = PlainTexts.items("s", "p40l2h6y3");
        for (String clause : text.split(";")) {
            if (clause.startsWith("s")) {
                master = PlainTexts.items(clause, "p40l2h6y3");
            } else if (clause.startsWith("w")) {
                Map<Character, Integer> way = PlainTexts.items(clause, "a0b1h2");
                ways.add(new int[] {way.get('a'), way.get('b'), way.get('h')});
            } else {
                Map<Character, Integer> told = PlainTexts.items(clause, "a10s5k0f8o14");
                Lad lad = new Lad();
                lad.art = told.get('a');
                lad.shown = told.get('s');
                lad.kind = told.get('k');
                lad.friend = told.get('f') == 8 ? NONE : told.get('f');
                lad.age = told.get('o');
                now.lads.add(lad);
            }
        }
    }

    // ---- what there is ----

    private boolean isTold() {
        return !now.lads.isEmpty();
    }

    private static boolean is(State state, int lad) {
        return lad >= 0 && lad < state.lads.size();
    }

    private static boolean lives(State state, int lad) {
        return is(state, lad) && state.lads.get(lad).how == 0;
    }

    private static List<Integer> living(State state) {
        List<Integer> living = new ArrayList<>();
        for (int i = 0; i < state.lads.size(); i++) {
            if (lives(state, i)) {
                living.add(i);
            }
        }
        return living;
    }

    private static int bits(List<Integer> lads) {
        int bits = 0;
        for (int lad : lads) {
            bits += 1 << lad;
        }
        return bits;
    }

    private static int fear(State state, int i) {
        Lad lad = state.lads.get(i);
        int half = (lad.kind == 1 ? 2 : 1) * (lad.warned ? 2 : 1);
        return lad.kind == 3 ? -1 : lad.shown / half + (lad.kind == 2 ? 10 : 0);
    }

    private static List<Integer> byFear(State state) {
        List<Integer> living = living(state);
        living.sort(Comparator.comparingInt((Integer i) -> -fear(state, i)).thenComparingInt(i -> i));
        return living;
    }

    private static int chosenOf(State state) {
        return living(state).isEmpty() ? NONE : byFear(state).get(0);
    }

    int master(int what) {
        return isTold() && what >= 0 && what < 4 ? master.get("plhy".charAt(what)) : NONE;
    }

    long lad(int lad, int what) {
        if (!is(now, lad) || what < 0 || what > 8) {
            return Check.THROWS;
        }
        Lad one = now.lads.get(lad);
        int[] all = {one.art, one.shown, one.kind, one.friend, one.age, one.how, one.warned ? 1 : 0,
            fear(now, lad), signs(lad)};
        return all[what];
    }

    private int signs(int lad) {
        Lad one = now.lads.get(lad);
        boolean befriended = false;
        for (int i : living(now)) {
            befriended |= now.lads.get(i).friend == lad;
        }
        boolean[] all = {one.art >= 20, one.shown >= 10, one.age >= 20, one.kind > 0, lives(now, one.friend), befriended};
        int signs = 0;
        for (int i = 0; i < 6; i++) {
            signs += all[i] ? 1 << i : 0;
        }
        return signs;
    }

    int way(int way, int what) {
        return way >= 0 && way < ways.size() && what >= 0 && what < 3 ? ways.get(way)[what] : NONE;
    }

    boolean law(int law) {
        if (law < -1 || law >= laws.size()) {
            return false;
        }
        holding = law;
        return true;
    }

    int count(int what) {
        int warned = 0;
        int art = 0;
        for (int i = 0; i < now.lads.size(); i++) {
            warned += now.lads.get(i).warned ? 1 << i : 0;
            art += lives(now, i) ? now.lads.get(i).art : 0;
        }
        int[] all = {now.lads.size(), ways.size(), laws.size(), tape.length(), holding, now.year, bits(living(now)), art,
            warned, bold, outs.size(), graves.size(), now.log.size(), past.size()};
        return what >= 0 && what < all.length ? all[what] : HIDDEN;
    }

    // ---- acts ----

    private int refuse(int why, int answer) {
        status[why]++;
        return answer;
    }

    private void act() {
        past.push(now.copy());
        if (past.size() > 40) {
            past.removeLast();
        }
    }

    int show(int lad, int v) {
        if (!is(now, lad)) {
            return refuse(0, HIDDEN);
        }
        if (!lives(now, lad)) {
            return refuse(1, HIDDEN);
        }
        if (v < 0 || v > now.lads.get(lad).art) {
            return refuse(2, HIDDEN);
        }
        act();
        now.lads.get(lad).shown = v;
        return fear(now, lad);
    }

    int warn(int lad) {
        if (!is(now, lad)) {
            return refuse(0, NONE);
        }
        int friend = now.lads.get(lad).friend;
        if (!lives(now, lad) || friend != NONE && !lives(now, friend)) {
            return refuse(1, NONE);
        }
        if (friend == NONE || now.lads.get(friend).warned) {
            return refuse(3, NONE);
        }
        act();
        now.lads.get(friend).warned = true;
        return friend;
    }

    int leave(int lad) {
        if (!is(now, lad)) {
            return refuse(0, NONE);
        }
        if (!lives(now, lad)) {
            return refuse(1, NONE);
        }
        if (living(now).size() == 1) {
            return refuse(3, NONE);
        }
        act();
        now.lads.get(lad).how = 2;
        return living(now).size();
    }

    private void newLad(int lad) {
        Lad one = new Lad();
        one.friend = NONE;
        one.age = 14;
        now.lads.set(lad, one);
    }

    int come(int lad) {
        if (!is(now, lad)) {
            return refuse(0, NONE);
        }
        if (lives(now, lad)) {
            return refuse(1, NONE);
        }
        act();
        newLad(lad);
        return living(now).size();
    }

    int years(int n) {
        if (!isTold()) {
            return refuse(0, NONE);
        }
        if (n < 1 || n > 60) {
            return refuse(2, NONE);
        }
        if (n > 999 - now.year) {
            return refuse(4, NONE);
        }
        for (int i = 0; i < n; i++) {
            act();
            year(now);
        }
        return now.year;
    }

    private int learnt(State state, int lad) {
        Lad one = state.lads.get(lad);
        long worth = master.get('l') + one.shown / 10;
        if (holding != NONE) {
            Map<Character, Integer> letters = new HashMap<>();
            letters.put('a', one.art);
            letters.put('s', one.shown);
            letters.put('k', one.kind);
            letters.put('o', one.age);
            letters.put('y', state.year);
            letters.put('n', living(state).size());
            worth = PlainTexts.worth(laws.get(holding).replace(" ", ""), letters);
        }
        return (int) Math.max(0, Math.min(9, worth));
    }

    private void year(State state) {
        State began = state.copy();
        for (int i : living(began)) {
            Lad lad = state.lads.get(i);
            lad.art = Math.min(99, lad.art + learnt(began, i));
            lad.age = Math.min(99, lad.age + master.get('y') * (lad.kind == 2 ? 2 : 1));
        }
        int buried = living(state).size() > 1 ? chosenOf(state) : NONE;
        if (buried != NONE) {
            state.lads.get(buried).how = 1;
        }
        int art = 0;
        for (Lad lad : state.lads) {
            lad.warned = false;
            art += lad.how == 0 ? lad.art : 0;
        }
        state.year++;
        state.log.add(0, new int[] {buried, living(state).size(), art});
        if (state.log.size() > 60) {
            state.log.remove(60);
        }
    }

    boolean bold(int v) {
        boolean is = v >= 0 && v <= 9 && v != bold;
        bold = is ? v : bold;
        return is;
    }

    int winters(int n, long seed) {
        if (!isTold() || n < 1 || n > 60 || n > 999 - now.year) {
            return NONE;
        }
        BigInteger x = BigInteger.valueOf(seed);
        for (int i = 0; i < n; i++) {
            act();
            for (int lad : living(now)) {
                x = next(x);
                Lad one = now.lads.get(lad);
                one.shown = draw(x, 10) < bold ? one.art / 2 : 0;
            }
            for (int lad = 0; lad < now.lads.size(); lad++) {
                if (!lives(now, lad)) {
                    x = next(x);
                    if (draw(x, 2) == 1) {
                        newLad(lad);
                    }
                }
            }
            year(now);
        }
        return now.year;
    }

    private static BigInteger next(BigInteger x) {
        return x.multiply(new BigInteger("6364136223846793005")).add(new BigInteger("1442695040888963407"))
            .mod(BigInteger.ONE.shiftLeft(64));
    }

    private static int draw(BigInteger x, int below) {
        return x.shiftRight(33).mod(BigInteger.valueOf(below)).intValue();
    }

    int status(int what) {
        return what >= 0 && what < 5 ? status[what] : NONE;
    }

    int undo() {
        if (past.isEmpty()) {
            return NONE;
        }
        now = past.pop();
        return past.size();
    }

    int log(int i, int what) {
        return i >= 0 && i < now.log.size() && what >= 0 && what < 3 ? now.log.get(i)[what] : HIDDEN;
    }

    int image() {
        if (!isTold()) {
            return NONE;
        }
        kept = now.copy();
        return now.year;
    }

    int back() {
        if (kept == null) {
            return NONE;
        }
        now = kept.copy();
        past.clear();
        return now.year;
    }

    // ---- what is asked ----

    int chosen() {
        return chosenOf(now);
    }

    int order() {
        if (!isTold()) {
            return NONE;
        }
        StringBuilder digits = new StringBuilder();
        for (int lad : byFear(now)) {
            digits.append(lad);
        }
        return Integer.parseInt(digits.toString());
    }

    int safe(int lad) {
        int most = NONE;
        for (int v = 0; lives(now, lad) && v <= now.lads.get(lad).art; v++) {
            State other = now.copy();
            other.lads.get(lad).shown = v;
            most = chosenOf(other) != lad ? v : most;
        }
        return most;
    }

    int path(int lad, int n, int what) {
        if (!lives(now, lad) || n < 1 || n > 5 || what < 0 || what > 1) {
            return NONE;
        }
        int row = NONE;
        int art = NONE;
        for (int i = 0; i < Math.pow(3, n); i++) {
            String digits = String.format("%" + n + "s", Integer.toString(i, 3)).replace(' ', '0');
            State then = now.copy();
            for (char how : digits.toCharArray()) {
                if (lives(then, lad)) {
                    Lad one = then.lads.get(lad);
                    one.shown = how == '0' ? 0 : how == '1' ? one.art / 2 : one.art;
                    year(then);
                }
            }
            if (lives(then, lad) && then.lads.get(lad).art > art) {
                art = then.lads.get(lad).art;
                row = Integer.parseInt(digits);
            }
        }
        return what == 0 ? row : art;
    }

    int holds(int lad) {
        State then = now.copy();
        for (int i = 1; lives(now, lad) && i <= 30; i++) {
            year(then);
            if (!lives(then, lad)) {
                return i;
            }
        }
        return NONE;
    }

    int tells(int lad) {
        List<Integer> fits = new ArrayList<>();
        for (int some = 0; lives(now, lad) && some < 64; some++) {
            boolean told = true;
            for (int other : living(now)) {
                told &= other == lad || (signs(lad) & some) != (signs(other) & some);
            }
            if (told) {
                fits.add(some);
            }
        }
        return fewest(fits);
    }

    private static int fewest(List<Integer> sets) {
        return sets.stream().min(Comparator.comparingInt((Integer i) -> Integer.bitCount(i)).thenComparingInt(i -> i))
            .orElse(NONE);
    }

    private static int picked(List<Integer> row, int i) {
        if (i == NONE) {
            return row.size();
        }
        Collections.sort(row);
        return i >= 0 && i < row.size() ? row.get(i) : NONE;
    }

    int twins(int i) {
        List<Integer> pairs = new ArrayList<>();
        for (int one : living(now)) {
            for (int other : living(now)) {
                if (one < other && signs(one) == signs(other)) {
                    pairs.add(10 * one + other);
                }
            }
        }
        return isTold() ? picked(pairs, i) : NONE;
    }

    private List<Integer> walk(int lad, boolean stopsAtSpies) {
        List<Integer> walk = new ArrayList<>();
        int next = lad;
        while (lives(now, next) && !walk.contains(next)) {
            if (stopsAtSpies && next != lad && now.lads.get(next).kind == 3) {
                break;
            }
            walk.add(next);
            next = now.lads.get(next).friend;
        }
        return walk;
    }

    int chain(int one, int other) {
        return walk(one, false).indexOf(other);
    }

    int trusts(int lad) {
        return lives(now, lad) ? bits(walk(lad, true)) : NONE;
    }

    int friends(int lad) {
        List<Integer> friends = new ArrayList<>();
        for (int i = 0; i < now.lads.size(); i++) {
            if (now.lads.get(i).friend == lad) {
                friends.add(i);
            }
        }
        return is(now, lad) ? bits(friends) : NONE;
    }

    int out(int lads, boolean is) {
        if (lads < 1 || lads >= 1 << now.lads.size() || outs.size() == 10) {
            return NONE;
        }
        outs.add(new int[] {lads, is ? 1 : 0});
        return outs.size();
    }

    private List<Integer> fitting(int k) {
        List<Integer> fitting = new ArrayList<>();
        for (int some = 0; some < 1 << now.lads.size(); some++) {
            boolean fits = Integer.bitCount(some) == k;
            for (int[] out : outs) {
                fits &= (out[1] == 1) == ((out[0] & some) != 0);
            }
            if (fits) {
                fitting.add(some);
            }
        }
        return fitting;
    }

    private boolean asks(int k) {
        return isTold() && k >= 1 && k <= 3;
    }

    int spies(int k, int i) {
        return asks(k) ? picked(fitting(k), i) : NONE;
    }

    int clear(int k) {
        if (!asks(k) || fitting(k).isEmpty()) {
            return NONE;
        }
        int all = (1 << now.lads.size()) - 1;
        for (int some : fitting(k)) {
            all &= ~some;
        }
        return all;
    }

    int best(int k) {
        if (!asks(k) || fitting(k).isEmpty()) {
            return NONE;
        }
        List<Integer> apart = new ArrayList<>();
        for (int i = 0; i < now.lads.size(); i++) {
            int lad = i;
            long yes = fitting(k).stream().filter(some -> (some >> lad & 1) == 1).count();
            long no = fitting(k).stream().filter(some -> (some >> lad & 1) == 0).count();
            apart.add((int) Math.abs(yes - no));
        }
        return apart.indexOf(Collections.min(apart));
    }

    int flight(int place) {
        if (!isTold() || place < 0 || place > 5) {
            return NONE;
        }
        return fly(0, place, 1);
    }

    private int fly(int from, int to, int been) {
        int least = from == to ? 0 : NONE;
        for (int[] way : ways) {
            int next = way[0] == from ? way[1] : way[1] == from ? way[0] : NONE;
            if (from != to && next != NONE && (been >> next & 1) == 0) {
                int rest = fly(next, to, been | 1 << next);
                if (rest != NONE && (least == NONE || rest + way[2] < least)) {
                    least = rest + way[2];
                }
            }
        }
        return least;
    }

    int reach() {
        int places = 0;
        for (int i = 0; i < 6; i++) {
            int hours = flight(i);
            places += hours != NONE && hours + hours <= master.get('h') ? 1 << i : 0;
        }
        return isTold() ? places : NONE;
    }

    int dare() {
        List<Integer> fits = new ArrayList<>();
        for (int some = 0; isTold() && some < 1 << now.lads.size(); some++) {
            int art = 0;
            boolean all = true;
            for (int i = 0; i < now.lads.size(); i++) {
                if ((some >> i & 1) == 1) {
                    all &= lives(now, i);
                    art += now.lads.get(i).art;
                }
            }
            if (all && art >= master.get('p')) {
                fits.add(some);
            }
        }
        return fewest(fits);
    }

    int shares(int lad) {
        if (!lives(now, lad) || living(now).size() > 5) {
            return HIDDEN;
        }
        return orders(living(now), 0, lad);
    }

    private int orders(List<Integer> left, int art, int lad) {
        int many = 0;
        for (int next : left) {
            List<Integer> rest = new ArrayList<>(left);
            rest.remove(Integer.valueOf(next));
            int all = art + now.lads.get(next).art;
            if (all < master.get('p')) {
                many += orders(rest, all, lad);
            } else if (next == lad) {
                many += factorial(rest.size());
            }
        }
        return many;
    }

    private static int factorial(int n) {
        return n == 0 ? 1 : n * factorial(n - 1);
    }

    private boolean play(int one, int other) {
        return one != other && lives(now, one) && lives(now, other);
    }

    int game(int one, int other, int x, int y, int what) {
        boolean fits = x >= 0 && x <= 1 && y >= 0 && y <= 1 && what >= 0 && what <= 1;
        if (!fits || !play(one, other)) {
            return HIDDEN;
        }
        State then = now.copy();
        then.lads.get(one).shown = x * then.lads.get(one).art;
        then.lads.get(other).shown = y * then.lads.get(other).art;
        int asked = what == 0 ? one : other;
        int learnt = learnt(then, asked);
        year(then);
        return lives(then, asked) ? learnt : learnt - 50;
    }

    int rests(int one, int other, int i) {
        List<Integer> rests = new ArrayList<>();
        for (int x = 0; x < 2; x++) {
            for (int y = 0; y < 2; y++) {
                boolean first = game(one, other, 1 - x, y, 0) <= game(one, other, x, y, 0);
                boolean second = game(one, other, x, 1 - y, 1) <= game(one, other, x, y, 1);
                if (first && second) {
                    rests.add(10 * x + y);
                }
            }
        }
        return play(one, other) ? picked(rests, i) : NONE;
    }

    int grave(int sort, int a, boolean is) {
        if (!isTold() || sort < 0 || sort > 1 || a < 0 || a > 99 || graves.size() == 10) {
            return NONE;
        }
        graves.add(new int[] {sort, a, is ? 1 : 0});
        return graves.size();
    }

    int dug() {
        List<Integer> dug = new ArrayList<>();
        for (int i = 0; i < now.lads.size(); i++) {
            boolean fits = true;
            for (int[] grave : graves) {
                int has = grave[0] == 0 ? now.lads.get(i).age : now.lads.get(i).art;
                fits &= (has >= grave[1]) == (grave[2] == 1);
            }
            if (fits) {
                dug.add(i);
            }
        }
        return isTold() ? bits(dug) : NONE;
    }

    int odds(int lad, int n) {
        if (!lives(now, lad) || n < 0 || n > 30) {
            return NONE;
        }
        BigInteger left = BigInteger.valueOf(1000000000);
        int all = 0;
        for (int i : living(now)) {
            all += fear(now, i) + 1;
        }
        for (int i = 0; i < n && all > 0; i++) {
            BigInteger lost = left.multiply(BigInteger.valueOf(fear(now, lad) + 1)).divide(BigInteger.valueOf(all));
            left = left.subtract(lost);
        }
        return left.intValue();
    }

    private int first(Comparator<Lad> by) {
        return living(now).stream().max(Comparator.comparing((Integer i) -> now.lads.get(i), by)
            .thenComparing(i -> -i)).orElse(NONE);
    }

    int ablest() {
        return first(Comparator.comparingInt(lad -> lad.art));
    }

    int oldest() {
        return first(Comparator.comparingInt(lad -> lad.age));
    }

    int hides(int lad) {
        return lives(now, lad) ? now.lads.get(lad).art - now.lads.get(lad).shown : NONE;
    }

    int learns(int lad) {
        return lives(now, lad) ? learnt(now, lad) : NONE;
    }

    /** All that can be counted and seen, to find where two mills part. */
    String all() {
        StringBuilder all = new StringBuilder();
        for (int i = 0; i < 14; i++) {
            all.append(count(i)).append(' ');
        }
        for (int i = 0; i < now.lads.size(); i++) {
            for (int what = 0; what < 9; what++) {
                all.append(lad(i, what)).append(what == 8 ? ';' : ',');
            }
        }
        return all.append(Arrays.toString(status)).toString();
    }
}
