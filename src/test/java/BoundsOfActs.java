/** Boundary cases of what happens: the second and the fourth part of the Terms, promises 10 to 20, 47 and 48. */
final class BoundsOfActs extends Bounds {
    /** All of one art, so that who shows half of it shows 10. */
    private static final String EIGHT = "la21;la21;la21;la21;la21;la21;la21;la21";

    BoundsOfActs(Doc doc) {
        super(doc);
    }

    void run() {
        in("Terms 2");
        fears();
        learning();
        ageing();
        burying();
        log();
        byHand();
        coming();
        undoing();
        statusOfOne();
        statusOfSeveral();
        in("Terms 4");
        winters();
        draws();
        acts();
        images();
        refusals();
        in("Promise 10");
        show();
        in("Promise 11");
        warn();
        in("Promise 12");
        leave();
        in("Promise 13");
        come();
        in("Promise 14");
        years();
        boldAndWinters();
        whatWentBy();
        imageAndBack();
    }

    // ---- years ----

    private static long fear(String lad, boolean warned) {
        BlackMill mill = Mill.of(lad + ";lf0");
        if (warned) {
            mill.warn(1);
        }
        return Mill.lad(mill, 0, 7);
    }

    private void fears() {
        says("of a FOOL half of it, cut");
        due("of 9", fear("ls9k1", false), 4);
        due("of 8", fear("ls8k1", false), 4);
        due("of 1", fear("ls1k1", false), 0);
        due("of 0", fear("ls0k1", false), 0);
        says("of one who is WARNED half of that, cut");
        due("of 9", fear("ls9", true), 4);
        due("of 1", fear("ls1", true), 0);
        due("of a fool's 7", fear("ls7k1", true), 1);
        due("of a fool's 10", fear("ls10k1", true), 2);
        due("not of one who warns", fear("ls9f1", false), 9);
        says("then of one OLD by art 10 more");
        due("than 0", fear("ls0k2", false), 10);
        due("than 60", fear("la60s60k2", false), 70);
        due("than a warned one's 9", fear("ls9k2", true), 14);
        due("than a warned one's 0", fear("ls0k2", true), 10);
        says("of a SPY always -1");
        due("who shows nothing", fear("ls0k3", false), -1);
        due("who shows all", fear("la60s60k3", false), -1);
        due("who is warned", fear("la60s60k3", true), -1);
        says("of those who LIVE the one whose FEAR is the greatest (of several the lowest number)");
        BlackMill mill = Mill.of("ls4;ls5;ls5;lk3");
        for (int chosen : new int[] {1, 2, 0}) {
            due("the first of the greatest", mill.chosen(), chosen);
            mill.leave(chosen);
        }
        due("a spy alone", mill.chosen(), 3);
        due("spies", Mill.of("lk3;lk3").chosen(), 0);
        due("not a spy", Mill.of("lk3;la0s0").chosen(), 1);
    }

    private static long artBehind(int years, String text, String law) {
        BlackMill mill = law.isEmpty() ? Mill.of(text) : Mill.of(text, law);
        mill.years(years);
        return Mill.lad(mill, 0, 0);
    }

    private void learning() {
        says("A YEAR (0 at first)");
        due("at first", Mill.of("l;l").count(5), 0);
        due("behind one", Mill.of("l;l").years(1), 1);
        says("each LAD that LIVES learns, by how all were as it began");
        BlackMill mill = Mill.of("lk2;l;l", "y:n");
        mill.years(1);
        due("by three", Mill.lad(mill, 2, 0), 13);
        due("who is buried in it, too", Mill.lad(mill, 0, 0), 13);
        mill.years(1);
        due("by two", Mill.lad(mill, 2, 0), 15);
        due("who is buried no more", Mill.lad(mill, 0, 0), 13);
        due("by its age as it began", artBehind(1, "lo19;lk2", "y:o-14"), 15);
        due("by its art as it began", artBehind(1, "la8;lk2", "y:a-4"), 12);
        due("by the year as it began", artBehind(1, "l;lk2", "y:y"), 10);
        due("by the next year", artBehind(2, "l;lk2", "y:y"), 11);
        says("held within 0 .. 9");
        due("9", artBehind(1, "l;lk2", "y:9"), 19);
        due("10", artBehind(1, "l;lk2", "y:10"), 19);
        due("far more", artBehind(1, "l;lk2", "y:9999"), 19);
        due("0", artBehind(1, "l;lk2", "y:0"), 10);
        due("less", artBehind(1, "l;lk2", "y:0-1"), 10);
        says("(none at first: LESSON and SHOWN by 10, cut, held likewise)");
        mill = Mill.of("l;l");
        Mill.tell(mill, 1, "y:1");
        due("no law holds by being told", mill.learns(0), 2);
        due("8 and 9", artBehind(1, "sl8;ls9;lk2", ""), 18);
        due("8 and 10", artBehind(1, "sl8;ls10;lk2", ""), 19);
        due("9 and 10", artBehind(1, "sl9;ls10;lk2", ""), 19);
        due("3 and 59", artBehind(1, "sl3;la60s59;la60s60k2", ""), 68);
        due("4 and 60", artBehind(1, "sl4;la60s60;la60s60k2", ""), 69);
        due("1 and 0", artBehind(1, "sl1;ls0;lk2", ""), 11);
        says("ART more (99 at most)");
        due("98", artBehind(38, "la60;lk2", "y:1"), 98);
        due("99", artBehind(39, "la60;lk2", "y:1"), 99);
        due("no more", artBehind(40, "la60;lk2", "y:1"), 99);
        due("96", artBehind(4, "la60;lk2", "y:9"), 96);
        due("96 and 9", artBehind(5, "la60;lk2", "y:9"), 99);
    }

    private static long ageBehind(int years, String text) {
        BlackMill mill = Mill.of(text);
        mill.years(years);
        return Mill.lad(mill, 0, 4);
    }

    private void ageing() {
        says("older by as many as a YEAR makes old (one OLD by art twice; 99 at most)");
        due("by one", ageBehind(1, "sy1;lo10;lk2"), 11);
        due("by nine", ageBehind(1, "sy9;lo10;lk2"), 19);
        due("by nine twice", ageBehind(1, "sy9;lo10k2;lk2s6"), 28);
        due("a fool", ageBehind(1, "lo10k1;lk2"), 13);
        due("a spy", ageBehind(1, "lo10k3;lk2"), 13);
        due("96", ageBehind(12, "lo60;lk2"), 96);
        due("99", ageBehind(13, "lo60;lk2"), 99);
        due("no more", ageBehind(14, "lo60;lk2"), 99);
        due("96 and 9", ageBehind(5, "sy9;lo60;lk2"), 99);
        due("96 by twice", ageBehind(2, "sy9;lo60k2;lk2s6"), 96);
        due("96 and twice 9", ageBehind(3, "sy9;lo60k2;lk2s6"), 99);
        due("who is buried no more", ageBehind(9, "lk2;l"), 20);
    }

    private void burying() {
        says("who is CHOSEN then is BURIED, if more than one LIVES");
        BlackMill mill = Mill.of("l;lk2");
        mill.years(1);
        due("one of two", Mill.lad(mill, 1, 5), 1);
        mill.years(1);
        due("not the last one", Mill.lad(mill, 0, 5), 0);
        due("nobody", mill.log(0, 0), NONE);
        says("(3) nobody is WARNED");
        mill = Mill.of("lf1;la60s60f0;l");
        mill.warn(0);
        mill.warn(1);
        due("two are", mill.count(8), 3);
        mill.years(1);
        due("nobody is", mill.count(8), 0);
        due("who is buried is not", Mill.lad(mill, 1, 5) * 10 + Mill.lad(mill, 1, 6), 10);
        says("(999 at most: of YEARS by which it would be beyond 999 none goes by)");
        mill = Mill.of("l;l");
        for (int i = 0; i < 16; i++) {
            mill.years(60);
        }
        due("to 1000", mill.years(40), NONE);
        due("none went by", mill.count(5), 960);
        due("to 999", mill.years(39), 999);
        due("one more", mill.years(1), NONE);
        due("sixty more", mill.years(60), NONE);
        due("it is", mill.count(5), 999);
    }

    private void log() {
        says("LOG: who was BURIED (NONE), how many LIVE, ART of all who LIVE");
        BlackMill mill = Mill.of("la30;lk2;l");
        mill.years(3);
        int[][] rows = {{NONE, 1, 16}, {0, 1, 14}, {1, 2, 44}};
        for (int i = 0; i < 3; i++) {
            for (int what = 0; what < 3; what++) {
                due(i + " years ago " + what, mill.log(i, what), rows[i][what]);
            }
        }
        says("(the latest 60 YEARS)");
        mill = Mill.of("la60;lk2", "y:1");
        mill.years(60);
        due("60", mill.count(12), 60);
        due("the first", mill.log(59, 0) * 100 + mill.log(59, 2), 161);
        mill.years(1);
        due("60 of 61", mill.count(12), 60);
        due("the second", mill.log(59, 0) * 100 + mill.log(59, 2), -100 + 62);
        due("no more", mill.log(60, 0), HIDDEN);
        mill.years(60);
        due("the oldest of 121", mill.log(59, 1), 1);
    }

    // ---- by hand ----

    private void byHand() {
        says("a LAD that LIVES SHOWS 0 .. ART");
        BlackMill mill = Mill.of("l;lk2;l");
        due("0", mill.show(0, 0), 0);
        due("less", mill.show(0, -1), HIDDEN);
        due("all", mill.show(0, 10), 10);
        due("more", mill.show(0, 11), HIDDEN);
        mill.years(1);
        due("what it has learnt", mill.show(0, 13), 13);
        due("more than that", mill.show(0, 14), HIDDEN);
        due("one buried", mill.show(1, 0), HIDDEN);
        says("one WARNS its FRIEND, if both LIVE");
        mill = Mill.of("lf1;lf2;lf3;l;l");
        mill.leave(1);
        due("a friend that left", mill.warn(0), NONE);
        due("one that left", mill.warn(1), NONE);
        due("both live", mill.warn(2), 3);
        says("(who was WARNED can't be once more in that YEAR)");
        mill = Mill.of("lf2;lf2;l;lk2");
        due("once", mill.warn(0), 2);
        due("once more", mill.warn(0), NONE);
        due("by another", mill.warn(1), NONE);
        due("halved once", Mill.lad(mill, 2, 7), 2);
        mill.years(1);
        due("in the next year", mill.warn(1), 2);
        says("(it lives no more here; not the last one)");
        mill = Mill.of("l;l");
        due("one of two", mill.leave(0), 1);
        due("how it is", Mill.lad(mill, 0, 5), 2);
        due("the last one", mill.leave(1), NONE);
        due("how the last one is", Mill.lad(mill, 1, 5), 0);
    }

    private void coming() {
        says("in place of one that is BURIED or has LEFT: ART, SHOWN 0, KIND 0, no FRIEND, AGE 14, not WARNED");
        BlackMill mill = Mill.of("la30s9k1f1o40;la30s9k2f0o40;l;lf0");
        mill.years(1);
        mill.warn(3);
        mill.leave(0);
        due("for one who left", mill.come(0), 3);
        due("for one who is buried", mill.come(1), 4);
        due("for one who lives", mill.come(2), NONE);
        int[] cells = {0, 0, 0, NONE, 14, 0, 0, 0};
        for (int lad = 0; lad < 2; lad++) {
            for (int what = 0; what < cells.length; what++) {
                due("lad " + lad + ", " + what, Mill.lad(mill, lad, what), cells[what]);
            }
        }
        due("a new one can be warned", mill.warn(3), 0);
    }

    private void undoing() {
        says("All these (each YEAR) are ACTS");
        BlackMill mill = Mill.of("lf1;l;l");
        mill.show(0, 1);
        due("one shows", mill.count(13), 1);
        mill.warn(0);
        due("one warns", mill.count(13), 2);
        mill.leave(2);
        due("one leaves", mill.count(13), 3);
        mill.come(2);
        due("a new one comes", mill.count(13), 4);
        mill.years(3);
        due("three years", mill.count(13), 7);
        says("the latest 40 can be UNDONE one by one (LOG, too)");
        mill = Mill.of("la60;l");
        for (int v = 0; v <= 40; v++) {
            mill.show(0, v);
        }
        due("forty of 41", mill.count(13), 40);
        for (int left = 39; left >= 0; left--) {
            due("one by one", mill.undo(), left);
            due("what it shows", Mill.lad(mill, 0, 1), left);
        }
        due("no more", mill.undo(), NONE);
        mill = Mill.of("la60;lk2", "y:1");
        mill.years(60);
        mill.years(41);
        mill.undo();
        due("a year each", mill.count(5), 100);
        for (int i = 0; i < 39; i++) {
            mill.undo();
        }
        due("forty years", mill.count(5), 61);
        due("the log, as long as it was", mill.count(12), 60);
        due("the oldest in it", mill.log(59, 2), 62);
        due("the latest in it", mill.log(0, 2), 99);
    }

    private void statusOfOne() {
        says("as there was no such one (0)");
        BlackMill mill = Mill.of("lf1;lf0;l;lf0");
        mill.show(4, 0);
        mill.warn(-1);
        mill.leave(4);
        mill.come(-1);
        due("four", refused(mill), 40000);
        says("it does not LIVE, or does (1)");
        mill.leave(1);
        mill.show(1, 0);
        mill.warn(1);
        mill.warn(0);
        mill.leave(1);
        mill.come(0);
        due("five", refused(mill), 45000);
        says("out of bounds (2)");
        mill.show(0, 11);
        mill.show(0, -1);
        mill.years(0);
        mill.years(61);
        due("four", refused(mill), 45400);
        says("no FRIEND, it was WARNED, the last one (3)");
        mill.warn(2);
        due("no friend", refused(mill), 45410);
        mill.warn(3);
        mill.warn(3);
        due("it was warned", refused(mill), 45420);
        mill.leave(0);
        mill.leave(2);
        mill.leave(3);
        due("the last one", refused(mill), 45430);
        says("beyond the last YEAR (4)");
        for (int i = 0; i < 16; i++) {
            mill.years(60);
        }
        mill.years(40);
        due("one", refused(mill), 45431);
    }

    private void statusOfSeveral() {
        says("of several the first");
        BlackMill mill = Mill.of("lf1;l;l");
        mill.leave(1);
        mill.show(3, -1);
        due("no such one, out of bounds", refused(mill), 10000);
        mill.show(1, -1);
        due("it does not live, out of bounds", refused(mill), 11000);
        mill.warn(1);
        due("it does not live, no friend", refused(mill), 12000);
        BlackMill none = new BlackMill();
        none.years(0);
        due("no mill, out of bounds", refused(none), 10000);
        for (int i = 0; i < 16; i++) {
            mill.years(60);
        }
        mill.years(39);
        mill.years(61);
        due("out of bounds, beyond", refused(mill), 12100);
        mill.years(60);
        due("beyond", refused(mill), 12101);
        says("not UNDONE");
        mill.undo();
        due("undone", refused(mill), 12101);
        mill.image();
        mill.back();
        due("back", refused(mill), 12101);
        Mill.tell(mill, 0, "l;l");
        due("another mill", refused(mill), 12101);
    }

    // ---- winters ----

    /** Who shows half of its art behind one winter, as bits. */
    private static int bold(BlackMill mill, long seed) {
        mill.winters(1, seed);
        int bits = 0;
        for (int i = 0; i < 8; i++) {
            bits |= Mill.lad(mill, i, 1) == 10 ? 1 << i : Mill.lad(mill, i, 1) == 0 ? 0 : 1 << 8;
        }
        return bits;
    }

    private static BlackMill fourOfEight() {
        BlackMill mill = Mill.of(EIGHT);
        for (int i = 1; i < 8; i += 2) {
            mill.leave(i);
        }
        return mill;
    }

    // The draws of a seed were worked out apart from this program, with numbers of any length.
    private void winters() {
        says("WINTERS by a seed: n (1 .. 60) YEARS");
        BlackMill mill = Mill.of(EIGHT);
        due("none", mill.winters(0, 6), NONE);
        due("below", mill.winters(-1, 6), NONE);
        due("above", mill.winters(61, 6), NONE);
        due("one", mill.winters(1, 6), 1);
        due("sixty", mill.winters(60, 6), 61);
        says("a draw of 10 below BOLD (0 .. 9; 5 at first)");
        int[] tens = {1, 2, 3, 9, 4, 5, 6, 6};
        for (int v = 0; v <= 9; v++) {
            mill = Mill.of(EIGHT);
            due("bold " + v, mill.bold(v), v != 5);
            int bits = 0;
            for (int i = 0; i < 8; i++) {
                bits |= tens[i] < v ? 1 << i : 0;
            }
            due("who shows half below " + v, bold(mill, 6), bits);
        }
        due("5 at first", bold(Mill.of(EIGHT), 6), 0b10111);
        says("it SHOWS half of its ART, cut, else nothing");
        mill = Mill.of("la1s0;la0s0;la60s60;la60s60");
        mill.winters(1, 6);
        int[] shown = {0, 0, 30, 0};
        for (int i = 0; i < 4; i++) {
            due("shown by " + i, Mill.lad(mill, i, 1), shown[i]);
        }
        says("each that is not here: a draw of 2: 1: a new one comes in its place");
        mill = fourOfEight();
        mill.winters(1, 6);
        due("who lives", mill.count(6), 0b1011100);
        due("art of the new one", Mill.lad(mill, 3, 0), 2);
        due("age of the new one", Mill.lad(mill, 3, 4), 17);
        mill = Mill.of("la20s20k2f1o30;lk3;lk3");
        mill.winters(2, 6);
        due("one who was buried, once more", mill.log(0, 0) * 10 + mill.log(1, 0), 0);
        due("kind of the new one", Mill.lad(mill, 0, 2), 0);
        due("friend of the new one", Mill.lad(mill, 0, 3), NONE);
        due("age of the new one in its place", Mill.lad(mill, 0, 4), 17);
        says("No STATUS.");
        mill.winters(0, 1);
        mill.winters(61, 1);
        new BlackMill().winters(1, 1);
        due("refused", refused(mill), 0);
    }

    private void draws() {
        says("(64 bits, going round)");
        due("the greatest seed", bold(Mill.of(EIGHT), Long.MAX_VALUE), 0b11110101);
        due("the least seed", bold(Mill.of(EIGHT), Long.MIN_VALUE), 0b1101);
        due("seed 0", bold(Mill.of(EIGHT), 0), 0b1100010);
        says("(x shifted right by 33, without sign)");
        due("tens of -1", bold(Mill.of(EIGHT), -1), 0b11010);
        BlackMill mill = fourOfEight();
        mill.winters(1, -1);
        due("twos of -1", mill.count(6), 0b11111001);
    }

    private void acts() {
        says("Each YEAR with what is ahead of it is one ACT.");
        BlackMill mill = Mill.of("la40s0k3;la20k3;la20k3;lk2");
        mill.winters(2, 6);
        due("two", mill.count(13), 2);
        int[] art = {48, 25, 25};
        int[] shown = {22, 0, 0};
        for (int i = 0; i < 3; i++) {
            due("art of " + i, Mill.lad(mill, i, 0), art[i]);
            due("shown by " + i, Mill.lad(mill, i, 1), shown[i]);
        }
        due("one undone", mill.undo(), 1);
        BlackMill other = Mill.of("la40s0k3;la20k3;la20k3;lk2");
        other.winters(1, 6);
        due("as behind one", Mill.all(mill).equals(Mill.all(other)), true);
        due("all undone", mill.undo(), 0);
        due("as at first", Mill.all(mill).equals(Mill.all(Mill.of("la40s0k3;la20k3;la20k3;lk2"))), true);
        mill.winters(60, 6);
        due("forty", mill.count(13), 40);
    }

    private void images() {
        says("An IMAGE keeps LADS, who is WARNED, the YEAR, the LOG");
        BlackMill mill = Mill.of("la20s12f1;lf0;lf0k2;lk3");
        mill.years(1);
        mill.come(2);
        mill.warn(1);
        String before = Mill.all(mill);
        mill.image();
        due("changes nothing", before.equals(Mill.all(mill)), true);
        mill.show(1, 0);
        mill.leave(2);
        mill.winters(3, 6);
        mill.years(60);
        due("all has changed", before.equals(Mill.all(mill)), false);
        says("they are so again (no ACT can be UNDONE then)");
        due("back", mill.back(), 1);
        due("so again", before.equals(Mill.all(mill)), true);
        due("no act", mill.count(13), 0);
        due("none undone", mill.undo(), NONE);
        mill = Mill.of("l;lk2", "y:y<60?1");
        mill.years(60);
        mill.years(2);
        mill.image();
        for (int i = 0; i < 3; i++) {
            mill.undo();
        }
        mill.come(1);
        mill.years(60);
        mill.back();
        due("a long log", mill.count(12), 60);
        due("its oldest year", mill.log(59, 2), 13);
        due("its latest year", mill.log(0, 0) * 100 + mill.log(0, 2), -100 + 70);
    }

    // ---- what is refused ----

    /** A call that is refused by a mill of which all is full. */
    private interface Refusal {
        long of(BlackMill mill);
    }

    /** A mill with four laws, ten secrets, ten graves, 239 bytes, one who left, one who is buried, one warned. */
    private static BlackMill full() {
        BlackMill mill = Mill.of("la20s12f1;lf0;lf0;lk3;lk2;w;wa1b2", "y:a=1?2;y:3");
        for (int i = 0; i < 3; i++) {
            Mill.tell(mill, 1, "y:4");
        }
        mill.bold(7);
        mill.years(1);
        mill.leave(3);
        mill.warn(1);
        for (int i = 0; i < 10; i++) {
            mill.out(3, true);
            mill.grave(0, 17, true);
        }
        Mill.feed(mill, "l;l;x".repeat(50).substring(0, 239));
        return mill;
    }

    private void refused(String what, long want, long status, Refusal refusal) {
        BlackMill mill = full();
        String before = Mill.all(mill);
        due(what, refusal.of(mill), want);
        due(what + " changes nothing", before.equals(Mill.all(mill)), true);
        due(what + " in the status", refused(mill), status);
    }

    private void refusals() {
        says("What is refused answers as told and changes nothing but STATUS.");
        refused("feed", NONE, 0, mill -> mill.feed(0x2020, 0, 0, 0, 0));
        refused("end", 0, 0, mill -> mill.end(240) ? 1 : 0);
        refused("fault", -2, 0, mill -> mill.fault(2));
        refused("text of a mill", NONE, 0, mill -> mill.text(0));
        refused("text of a law", NONE, 0, mill -> mill.text(1));
        refused("text of no such sort", NONE, 0, mill -> mill.text(2));
        refused("law", 0, 0, mill -> mill.law(4) ? 1 : 0);
        refused("show of no such one", HIDDEN, 10000, mill -> mill.show(5, 0));
        refused("show of one who left", HIDDEN, 1000, mill -> mill.show(3, 0));
        refused("show of one who is buried", HIDDEN, 1000, mill -> mill.show(4, 0));
        refused("show out of bounds", HIDDEN, 100, mill -> mill.show(0, 24));
        refused("warn of no such one", NONE, 10000, mill -> mill.warn(-1));
        refused("warn of one who left", NONE, 1000, mill -> mill.warn(3));
        refused("warn of one who was warned", NONE, 10, mill -> mill.warn(2));
        refused("leave of no such one", NONE, 10000, mill -> mill.leave(8));
        refused("leave of one who left", NONE, 1000, mill -> mill.leave(3));
        refused("come of no such one", NONE, 10000, mill -> mill.come(5));
        refused("come of one who lives", NONE, 1000, mill -> mill.come(0));
        refused("no years", NONE, 100, mill -> mill.years(0));
        refused("too many years", NONE, 100, mill -> mill.years(61));
        refused("bold", 0, 0, mill -> mill.bold(10) ? 1 : 0);
        refused("bold as it is", 0, 0, mill -> mill.bold(7) ? 1 : 0);
        refused("no winters", NONE, 0, mill -> mill.winters(0, 1));
        refused("too many winters", NONE, 0, mill -> mill.winters(61, 1));
        refused("back", NONE, 0, BlackMill::back);
        refused("out", NONE, 0, mill -> mill.out(1, false));
        refused("grave", NONE, 0, mill -> mill.grave(0, 0, true));
        refused("status", NONE, 0, mill -> mill.status(5));
        refused("path", NONE, 0, mill -> mill.path(3, 1, 0));
        refused("holds", NONE, 0, mill -> mill.holds(9));
        refused("game", HIDDEN, 0, mill -> mill.game(0, 3, 0, 0, 0));
        refused("lad", Check.THROWS, 0, mill -> Mill.lad(mill, 5, 0));
    }

    // ---- promises 10 to 20, 47 and 48 ----

    private void show() {
        BlackMill mill = Mill.of("l;l;l");
        says("no such one (STATUS 0)");
        due("below", mill.show(-1, 0), HIDDEN);
        due("above", mill.show(3, 0), HIDDEN);
        due("no mill", new BlackMill().show(0, 0), HIDDEN);
        due("status", refused(mill), 20000);
        says("it does not LIVE (1)");
        mill.leave(2);
        due("one who left", mill.show(2, 5), HIDDEN);
        mill.years(1);
        due("one who is buried", mill.show(0, 5), HIDDEN);
        due("status", refused(mill), 22000);
        says("out of bounds (2)");
        due("below", mill.show(1, -1), HIDDEN);
        due("above", mill.show(1, 13), HIDDEN);
        due("status", refused(mill), 22200);
        due("what it shows", Mill.lad(mill, 1, 1), 5);
    }

    private void warn() {
        BlackMill mill = Mill.of("lf1;l;lf1;lf0;lk2f1");
        says("no such one (STATUS 0)");
        due("below", mill.warn(-1), NONE);
        due("above", mill.warn(5), NONE);
        due("no mill", new BlackMill().warn(0), NONE);
        due("status", refused(mill), 20000);
        says("no FRIEND");
        due("none", mill.warn(1), NONE);
        due("status", refused(mill), 20010);
        says("it was WARNED (3)");
        due("at first", mill.warn(2), 1);
        due("again", mill.warn(2), NONE);
        due("by another", mill.warn(0), NONE);
        due("status", refused(mill), 20030);
        says("one does not LIVE (1)");
        mill.leave(0);
        mill.years(1);
        due("one who left", mill.warn(0), NONE);
        due("its friend left", mill.warn(3), NONE);
        due("one who is buried", mill.warn(4), NONE);
        mill.years(1);
        due("its friend is buried", mill.warn(2), NONE);
        due("status", refused(mill), 24030);
        due("nobody is warned", mill.count(8), 0);
    }

    private void leave() {
        BlackMill mill = Mill.of("l;l;l");
        says("no such one (STATUS 0)");
        due("below", mill.leave(-1), NONE);
        due("above", mill.leave(3), NONE);
        due("no mill", new BlackMill().leave(0), NONE);
        due("status", refused(mill), 20000);
        says("it does not LIVE (1)");
        due("two are left", mill.leave(2), 2);
        due("one who left", mill.leave(2), NONE);
        mill.years(1);
        due("one who is buried", mill.leave(0), NONE);
        due("status", refused(mill), 22000);
        says("the last one (3)");
        due("the last one", mill.leave(1), NONE);
        due("status", refused(mill), 22010);
        due("it lives", mill.count(6), 2);
    }

    private void come() {
        BlackMill mill = Mill.of("l;l;l");
        says("no such one (STATUS 0)");
        due("below", mill.come(-1), NONE);
        due("above", mill.come(3), NONE);
        due("no mill", new BlackMill().come(0), NONE);
        due("status", refused(mill), 20000);
        says("it LIVES (1)");
        due("it lives", mill.come(1), NONE);
        mill.leave(1);
        due("it left", mill.come(1), 3);
        due("it lives again", mill.come(1), NONE);
        due("status", refused(mill), 22000);
    }

    private void years() {
        BlackMill mill = Mill.of("l;l;l");
        says("YEARS (1 .. 60)");
        due("1", mill.years(1), 1);
        due("60", mill.years(60), 61);
        says("no MILL (STATUS 0)");
        BlackMill none = new BlackMill();
        due("no mill", none.years(1), NONE);
        due("status", refused(none), 10000);
        says("out of bounds (2)");
        due("0", mill.years(0), NONE);
        due("below", mill.years(Integer.MIN_VALUE), NONE);
        due("61", mill.years(61), NONE);
        due("far above", mill.years(Integer.MAX_VALUE), NONE);
        due("status", refused(mill), 400);
        due("none went by", mill.count(5), 61);
        says("beyond 999 (4)");
        for (int i = 0; i < 15; i++) {
            mill.years(60);
        }
        due("39 to 1000", mill.years(39), NONE);
        due("status", refused(mill), 401);
        due("38 to 999", mill.years(38), 999);
    }

    private void boldAndWinters() {
        in("Promise 15");
        BlackMill mill = Mill.of("l;l;l");
        says("False: out of bounds");
        due("below", mill.bold(-1), false);
        due("above", mill.bold(10), false);
        due("the least", mill.bold(0), true);
        due("the most", mill.bold(9), true);
        says("it is so");
        due("so", mill.bold(9), false);
        due("otherwise", mill.bold(5), true);
        due("so at first", new BlackMill().bold(5), false);

        in("Promise 16");
        says("NONE: no MILL");
        due("no mill", new BlackMill().winters(1, 1), NONE);
        says("out of bounds");
        due("none", mill.winters(0, 1), NONE);
        due("below", mill.winters(-1, 1), NONE);
        due("above", mill.winters(61, 1), NONE);
        due("far above", mill.winters(Integer.MAX_VALUE, 1), NONE);
        due("none went by", mill.count(5), 0);
        says("beyond 999");
        for (int i = 1; i <= 16; i++) {
            due("sixty", mill.winters(60, i), 60 * i);
        }
        due("40 to 1000", mill.winters(40, 1), NONE);
        due("none went by", mill.count(5), 960);
        due("39 to 999", mill.winters(39, 1), 999);
        due("one more", mill.winters(1, 1), NONE);
        due("no status", refused(mill), 0);
    }

    private void whatWentBy() {
        in("Promise 17");
        says("NONE: no such what");
        BlackMill mill = Mill.of("l;lk2;l");
        due("below", mill.status(-1), NONE);
        due("above", mill.status(5), NONE);
        due("the last", mill.status(4), 0);

        in("Promise 18");
        says("NONE: none");
        due("none yet", mill.undo(), NONE);
        mill.show(0, 1);
        due("one", mill.undo(), 0);
        due("none left", mill.undo(), NONE);
        due("no mill", new BlackMill().undo(), NONE);

        in("Promise 19");
        says("the latest (i 0), the one ahead of it (1)");
        mill.years(2);
        due("the latest", mill.log(0, 0), 0);
        due("the one ahead", mill.log(1, 0), 1);
        says("0 BURIED (NONE)");
        mill.years(1);
        due("nobody", mill.log(0, 0), NONE);
        says("HIDDEN: no such ones");
        due("below", mill.log(-1, 0), HIDDEN);
        due("above", mill.log(3, 0), HIDDEN);
        due("what below", mill.log(0, -1), HIDDEN);
        due("what above", mill.log(0, 3), HIDDEN);
        due("the last ones", mill.log(2, 2), 24);
        due("no mill", new BlackMill().log(0, 0), HIDDEN);

        in("Promise 20");
        says("NONE: no MILL");
        due("no mill", new BlackMill().chosen(), NONE);
        due("the last one", mill.chosen(), 2);
    }

    private void imageAndBack() {
        in("Promise 47");
        says("(instead of the one ahead): the YEAR");
        BlackMill mill = Mill.of("l;lk2;l");
        due("at first", mill.image(), 0);
        mill.years(2);
        due("behind two years", mill.image(), 2);
        mill.years(1);
        due("back to that", mill.back(), 2);
        due("and again", mill.back(), 2);
        says("NONE: no MILL");
        due("no mill", new BlackMill().image(), NONE);

        in("Promise 48");
        says("NONE: no IMAGE of this MILL");
        due("no mill", new BlackMill().back(), NONE);
        due("none yet", Mill.of("l;l").back(), NONE);
        Mill.feed(mill, "l;l;");
        mill.text(0);
        due("of this one, another was refused", mill.back(), 2);
        mill.end(3);
        mill.text(0);
        due("of another one", mill.back(), NONE);
        due("of this one", mill.image() + mill.back(), 0);
    }
}
