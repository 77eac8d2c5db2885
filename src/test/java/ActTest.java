/** Promises 10 to 20, 47 and 48: acts, years, winters, what was refused, what is taken back. */
public final class ActTest {
    private static final int HIDDEN = BlackMill.HIDDEN;
    private static final Check CHECK = new Check("ActTest");

    public static void main(String[] args) {
        show();
        warn();
        leave();
        come();
        years();
        yearsOfALaw();
        lastYears();
        lastWinters();
        bold();
        winters();
        status();
        undo();
        log();
        chosen();
        images();
        CHECK.end();
    }

    private static void due(String what, long got, long want) {
        CHECK.due(what, got, want);
    }

    private static void statuses(String what, BlackMill mill, int... want) {
        for (int i = 0; i < want.length; i++) {
            due(what + ", status " + i, mill.status(i), want[i]);
        }
    }

    private static void show() {
        BlackMill mill = Mill.of("l;la21k1;la30k2;lk3");
        due("P10 plain", mill.show(0, 10), 10);
        due("P10 it shows", Mill.lad(mill, 0, 1), 10);
        due("P10 a fool", mill.show(1, 21), 10);
        due("P10 one old by art", mill.show(2, 30), 40);
        due("P10 a spy", mill.show(3, 9), -1);
        due("P10 nothing", mill.show(0, 0), 0);
        due("P10 acts", mill.count(13), 5);
        statuses("P10", mill, 0, 0, 0, 0, 0);
        due("P10 more than all", mill.show(0, 11), HIDDEN);
        due("P10 less than nothing", mill.show(0, -1), HIDDEN);
        due("P10 no such lad", mill.show(4, -1), HIDDEN);
        due("P10 no such lad, below", mill.show(-1, 0), HIDDEN);
        mill.leave(0);
        due("P10 one who left", mill.show(0, 11), HIDDEN);
        statuses("P10 refused", mill, 2, 1, 2, 0, 0);
        due("P10 refused are no acts", mill.count(13), 6);
        due("P10 refused changes nothing", Mill.lad(mill, 0, 1), 0);
    }

    private static void warn() {
        BlackMill mill = Mill.of("lf1;l;lf1;lf0;lf5;l");
        due("P11 its friend", mill.warn(3), 0);
        due("P11 another", mill.warn(0), 1);
        due("P11 warned", mill.count(8), 3);
        due("P11 fear", Mill.lad(mill, 1, 7), 2);
        statuses("P11", mill, 0, 0, 0, 0, 0);
        due("P11 was warned", mill.warn(2), -1);
        due("P11 no friend", mill.warn(1), -1);
        due("P11 no such lad", mill.warn(6), -1);
        due("P11 no such lad, below", mill.warn(-1), -1);
        statuses("P11 refused", mill, 2, 0, 0, 2, 0);
        mill.leave(1);
        due("P11 friend left", mill.warn(0), -1);
        due("P11 one who left, without a friend", mill.warn(1), -1);
        mill.leave(2);
        due("P11 one who left", mill.warn(2), -1);
        statuses("P11 refused for life", mill, 2, 3, 0, 2, 0);
        due("P11 acts", mill.count(13), 4);
        mill.show(0, 10);
        mill.years(1);
        due("P11 in another year", mill.warn(3), -1);
        due("P11 the friend was buried", Mill.lad(mill, 0, 5), 1);
        mill.come(1);
        mill.come(2);
        mill.come(0);
        due("P11 a new one is the friend", mill.warn(3), 0);
        due("P11 the same year", mill.warn(3), -1);
        mill.years(1);
        due("P11 nobody is warned", mill.count(8), 0);
        due("P11 the next year", Mill.lad(mill, 3, 5), 1);
    }

    private static void leave() {
        BlackMill mill = Mill.of("l;l;l");
        due("P12 two are left", mill.leave(1), 2);
        due("P12 how", Mill.lad(mill, 1, 5), 2);
        due("P12 who lives", mill.count(6), 5);
        due("P12 again", mill.leave(1), -1);
        due("P12 no such lad", mill.leave(3), -1);
        due("P12 no such lad, below", mill.leave(-1), -1);
        due("P12 one is left", mill.leave(0), 1);
        due("P12 the last one", mill.leave(2), -1);
        due("P12 the last one lives", mill.count(6), 4);
        statuses("P12", mill, 2, 1, 0, 1, 0);
        due("P12 acts", mill.count(13), 2);
    }

    private static void come() {
        BlackMill mill = Mill.of("la30s30k2f1o40;lf0;l");
        mill.warn(1);
        due("P13 it lives", mill.come(0), -1);
        due("P13 no such lad", mill.come(3), -1);
        due("P13 no such lad, below", mill.come(-1), -1);
        statuses("P13", mill, 2, 1, 0, 0, 0);
        mill.leave(0);
        due("P13 one comes", mill.come(0), 3);
        int[] all = {0, 0, 0, -1, 14, 0, 0, 0, 32};
        for (int what = 0; what < all.length; what++) {
            due("P13 a new one " + what, Mill.lad(mill, 0, what), all[what]);
        }
        mill.show(2, 10);
        mill.years(1);
        due("P13 for one buried", mill.come(2), 3);
        due("P13 art of the new one", Mill.lad(mill, 2, 0), 0);
        due("P13 acts", mill.count(13), 6);
    }

    private static void years() {
        BlackMill mill = Mill.of("sy9l3;la58s40o60k2;la60s39;ls0;ls0k3");
        due("P14 one", mill.years(1), 1);
        due("P14 old by art is older twice", Mill.lad(mill, 0, 4), 78);
        due("P14 learnt by what it showed", Mill.lad(mill, 0, 0), 65);
        due("P14 the chosen one is buried", Mill.lad(mill, 0, 5), 1);
        due("P14 older", Mill.lad(mill, 2, 4), 23);
        due("P14 learnt", Mill.lad(mill, 1, 0), 66);
        due("P14 lesson alone", Mill.lad(mill, 3, 0), 13);
        due("P14 shows as ever", Mill.lad(mill, 1, 1), 39);
        due("P14 one more", mill.years(1), 2);
        due("P14 buried next", Mill.lad(mill, 1, 5), 1);
        due("P14 the buried learn no more", Mill.lad(mill, 0, 0), 65);
        due("P14 the buried are no older", Mill.lad(mill, 0, 4), 78);
        due("P14 a spy outlives", mill.years(1), 3);
        due("P14 who lives", mill.count(6), 8);
        due("P14 the last one is not buried", mill.years(60), 63);
        due("P14 who lives still", mill.count(6), 8);
        due("P14 no more than 99 art", Mill.lad(mill, 3, 0), 99);
        due("P14 no more than 99 years", Mill.lad(mill, 3, 4), 99);

        mill = Mill.of("l;l;l");
        mill.years(1);
        due("P14 of several the lowest", mill.count(6), 6);
        due("P14 none", mill.years(0), -1);
        due("P14 below", mill.years(-1), -1);
        due("P14 too many", mill.years(61), -1);
        due("P14 far too many", mill.years(Integer.MAX_VALUE), -1);
        statuses("P14", mill, 0, 0, 4, 0, 0);
        due("P14 refused, none went by", mill.count(5), 1);
        BlackMill none = new BlackMill();
        due("P14 no mill", none.years(0), -1);
        statuses("P14 no mill", none, 1, 0, 0, 0, 0);
        due("P14 learns at most 9", learnt("sl9;la60s60;l"), 69);
        due("P14 lesson and shown", learnt("sl8;la60s19;l"), 69);
        due("P14 lesson and shown, cut", learnt("sl7;la60s19;l"), 68);

        mill = Mill.of("lf2;ls4;ls8");
        mill.warn(0);
        mill.years(1);
        due("P14 a warned one is feared less", mill.count(6), 6);
        mill.years(1);
        due("P14 for one year", mill.count(6), 2);
    }

    private static long learnt(String text) {
        BlackMill mill = Mill.of(text);
        mill.years(1);
        return Mill.lad(mill, 0, 0);
    }

    private static void yearsOfALaw() {
        BlackMill mill = Mill.of("l;la20s9;l;l", "y:n=4?y+3;y:n");
        mill.years(1);
        due("P14 by how many lived as it began", Mill.lad(mill, 3, 0), 13);
        mill.years(1);
        due("P14 by how many are left", Mill.lad(mill, 3, 0), 16);
        mill = Mill.of("l;l", "y:y*2");
        mill.years(1);
        due("P14 the first year is 0", Mill.lad(mill, 1, 0), 10);
        mill.years(2);
        due("P14 0, 2 and 4 more", Mill.lad(mill, 1, 0), 16);
        mill = Mill.of("la20s20o50k1;l", "y:a>19&s=a?o-45;y:9");
        mill.years(1);
        due("P14 by age as it began", Mill.lad(mill, 0, 0), 25);
    }

    private static void lastYears() {
        BlackMill mill = Mill.of("l;l");
        for (int i = 1; i <= 16; i++) {
            due("P14 sixty more", mill.years(60), 60 * i);
        }
        due("P14 beyond 999", mill.years(40), -1);
        due("P16 beyond 999", mill.winters(40, 1), -1);
        statuses("P14 beyond", mill, 0, 0, 0, 0, 1);
        due("P14 none went by", mill.count(5), 960);
        due("P14 up to 999", mill.years(39), 999);
        due("P14 out of bounds goes first", mill.years(61), -1);
        due("P14 one beyond", mill.years(1), -1);
        statuses("P14 beyond again", mill, 0, 0, 1, 0, 2);
        due("P16 one beyond", mill.winters(1, 1), -1);
        due("P14 acts", mill.count(13), 40);
        due("P12 the log", mill.count(12), 60);
        BlackMill lawful = mill;
        Mill.tell(lawful, 1, "y:y>999?3;y:1");
        lawful.law(0);
        lawful.show(1, 0);
        due("P21 goes on behind 999", lawful.path(1, 2, 1), 99);
        lawful.come(0);
        due("P21 art of a new one", Mill.lad(lawful, 0, 0), 0);
        lawful.show(1, 99);
        due("P21 behind 999 the law goes on", lawful.path(0, 3, 1), 7);
    }

    private static void lastWinters() {
        BlackMill mill = Mill.of("l;l;l");
        for (int i = 1; i <= 16; i++) {
            due("P16 sixty winters", mill.winters(60, i), 60 * i);
        }
        due("P16 one too many", mill.winters(40, 5), -1);
        due("P16 up to 999", mill.winters(39, 5), 999);
        due("P16 forty acts", mill.count(13), 40);
    }

    private static void bold() {
        BlackMill mill = new BlackMill();
        due("P15 so at first", mill.bold(5) ? 1 : 0, 0);
        due("P15 none", mill.bold(0) ? 1 : 0, 1);
        due("P15 most", mill.bold(9) ? 1 : 0, 1);
        due("P15 it is so", mill.bold(9) ? 1 : 0, 0);
        due("P15 above", mill.bold(10) ? 1 : 0, 0);
        due("P15 below", mill.bold(-1) ? 1 : 0, 0);
        due("P15 count", mill.count(9), 9);
    }

    /** Plays winters by hand beside the mill, with draws of its own. */
    private static void winters() {
        BlackMill mill = Mill.of("la21;la30s30;la40k2;la17;la60k3");
        due("P16 none", mill.winters(0, 7), -1);
        due("P16 too many", mill.winters(61, 7), -1);
        due("P16 no mill", new BlackMill().winters(1, 7), -1);
        statuses("P16 no status", mill, 0, 0, 0, 0, 0);
        for (int bold = 0; bold <= 9; bold++) {
            mill.bold(bold);
            winter(mill, bold, 1000003L * bold - 5);
        }
        long before = mill.count(5);
        int acts = mill.count(13);
        due("P16 each year is one act", acts, 10);
        mill.winters(3, Long.MIN_VALUE);
        due("P16 three years", mill.count(5), before + 3);
        due("P16 three acts", mill.count(13), 13);
        mill.undo();
        due("P16 one of them undone", mill.count(5), before + 2);

        BlackMill one = Mill.of("la21;la30s30;la40k2;la17;la60k3");
        BlackMill other = Mill.of("la21;la30s30;la40k2;la17;la60k3");
        one.winters(20, 99);
        other.winters(20, 99);
        due("P16 the same seed", one.count(7), other.count(7));
        due("P16 the same seed, order", one.order(), other.order());
    }

    private static void winter(BlackMill mill, int bold, long seed) {
        int[] art = new int[5];
        int[] shown = new int[5];
        boolean[] lives = new boolean[5];
        boolean[] comes = new boolean[5];
        long x = seed;
        for (int i = 0; i < 5; i++) {
            lives[i] = Mill.lad(mill, i, 5) == 0;
            art[i] = (int) Mill.lad(mill, i, 0);
            shown[i] = (int) Mill.lad(mill, i, 1);
            if (lives[i]) {
                x = x * 6364136223846793005L + 1442695040888963407L;
                shown[i] = (x >>> 33) % 10 < bold ? art[i] / 2 : 0;
            }
        }
        for (int i = 0; i < 5; i++) {
            if (!lives[i]) {
                x = x * 6364136223846793005L + 1442695040888963407L;
                comes[i] = (x >>> 33) % 2 == 1;
            }
        }
        int year = mill.count(5);
        due("P16 one winter", mill.winters(1, seed), year + 1);
        for (int i = 0; i < 5; i++) {
            due("P16 shown by " + i + " in " + year, Mill.lad(mill, i, 1), comes[i] ? 0 : shown[i]);
            boolean isHere = lives[i] || comes[i];
            boolean isBuried = mill.log(0, 0) == i;
            due("P16 how " + i + " is in " + year, Mill.lad(mill, i, 5) == 0 ? 1 : 0, isHere && !isBuried ? 1 : 0);
        }
    }

    private static void status() {
        BlackMill mill = Mill.of("l;l");
        due("P17 no such", mill.status(5), -1);
        due("P17 no such, below", mill.status(-1), -1);
        mill.come(0);
        mill.come(0);
        mill.show(1, 99);
        mill.warn(1);
        statuses("P17", mill, 0, 2, 1, 1, 0);
        mill.leave(0);
        mill.undo();
        statuses("P17 not undone", mill, 0, 2, 1, 1, 0);
        mill.path(9, 1, 0);
        mill.game(9, 1, 0, 0, 0);
        mill.lad(0, 0);
        mill.undo();
        mill.bold(99);
        statuses("P17 acts alone", mill, 0, 2, 1, 1, 0);
    }

    private static void undo() {
        BlackMill mill = Mill.of("la20s12f1;lf0;l");
        due("P18 none", mill.undo(), -1);
        mill.show(0, 20);
        mill.warn(1);
        mill.leave(2);
        mill.years(2);
        mill.come(2);
        due("P18 acts", mill.count(13), 6);
        due("P18 who comes", mill.undo(), 5);
        due("P18 it left", Mill.lad(mill, 2, 5), 2);
        due("P18 a year", mill.undo(), 4);
        due("P18 the year", mill.count(5), 1);
        due("P18 the log", mill.count(12), 1);
        due("P18 the year ahead", mill.undo(), 3);
        due("P18 year 0", mill.count(5), 0);
        due("P18 no log", mill.log(0, 0), HIDDEN);
        due("P18 warned again", mill.count(8), 1);
        due("P18 art again", Mill.lad(mill, 0, 0), 20);
        due("P18 age again", Mill.lad(mill, 0, 4), 14);
        due("P18 who left", mill.undo(), 2);
        due("P18 lives again", mill.count(6), 7);
        due("P18 who was warned", mill.undo(), 1);
        due("P18 not warned", mill.count(8), 0);
        due("P18 who showed", mill.undo(), 0);
        due("P18 shows as at first", Mill.lad(mill, 0, 1), 12);
        due("P18 no more", mill.undo(), -1);

        for (int i = 0; i <= 10; i++) {
            mill.show(0, i);
        }
        mill.years(38);
        due("P18 forty", mill.count(13), 40);
        for (int i = 39; i >= 0; i--) {
            due("P18 of forty", mill.undo(), i);
        }
        due("P18 the forty-first", mill.undo(), -1);
        due("P18 as forty acts ago", Mill.lad(mill, 0, 1), 8);

        mill = Mill.of("l;l");
        mill.years(60);
        mill.come(0);
        mill.years(40);
        due("P18 log ahead", mill.log(39, 0), 1);
        for (int i = 0; i < 40; i++) {
            mill.undo();
        }
        due("P18 sixty years are in the log again", mill.count(12), 60);
        due("P18 the first year is in the log again", mill.log(59, 0), 0);
        due("P18 the second year", mill.log(58, 0), -1);
        due("P18 what can't be undone", mill.count(6), 3);
    }

    private static void log() {
        BlackMill mill = Mill.of("la30s20;la20s10;lk3");
        due("P19 none", mill.log(0, 0), HIDDEN);
        mill.years(3);
        int[][] due = {{-1, 1, 16}, {1, 1, 14}, {0, 2, 35}};
        for (int i = 0; i < 3; i++) {
            for (int what = 0; what < 3; what++) {
                due("P19 " + i + " years ago " + what, mill.log(i, what), due[i][what]);
            }
            due("P19 no such what", mill.log(i, 3), HIDDEN);
            due("P19 no such what, below", mill.log(i, -1), HIDDEN);
        }
        due("P19 too far", mill.log(3, 0), HIDDEN);
        due("P19 below", mill.log(-1, 0), HIDDEN);
        mill.years(57);
        due("P19 sixty", mill.log(59, 0), 0);
        mill.years(1);
        due("P19 the latest sixty", mill.log(59, 0), 1);
        due("P19 no more than sixty", mill.log(60, 0), HIDDEN);
        due("P19 how long", mill.count(12), 60);
    }

    private static void chosen() {
        due("P20 no mill", new BlackMill().chosen(), -1);
        BlackMill mill = Mill.of("ls9;la10s10k1;la0s0k2;ls9;lk3");
        due("P20 old by art", mill.chosen(), 2);
        mill.leave(2);
        due("P20 of several the lowest", mill.chosen(), 0);
        mill.leave(0);
        due("P20 who lives", mill.chosen(), 3);
        mill.leave(3);
        due("P20 a fool", mill.chosen(), 1);
        mill.leave(1);
        due("P20 a spy alone", mill.chosen(), 4);
    }

    private static void images() {
        BlackMill mill = new BlackMill();
        due("P47 no mill", mill.image(), -1);
        due("P48 no mill", mill.back(), -1);
        Mill.tell(mill, 0, "la20f1;lf0;la30s20");
        due("P48 none", mill.back(), -1);
        mill.years(1);
        mill.warn(1);
        mill.warn(0);
        due("P47 the year", mill.image(), 1);
        due("P47 acts can still be undone", mill.count(13), 3);
        int art = mill.count(7);
        mill.show(1, 0);
        mill.years(5);
        mill.bold(1);
        mill.out(1, true);
        mill.grave(0, 1, true);
        mill.leave(7);
        due("P48 the year", mill.back(), 1);
        due("P48 art", mill.count(7), art);
        due("P48 shown", Mill.lad(mill, 1, 1), 5);
        due("P48 warned", mill.count(8), 3);
        due("P48 who lives", mill.count(6), 3);
        due("P48 the log", mill.count(12), 1);
        due("P48 the log, buried", mill.log(0, 0), 2);
        due("P48 no act can be undone", mill.undo(), -1);
        due("P48 bold as it is", mill.count(9), 1);
        due("P48 out as it is", mill.count(10), 1);
        due("P48 graves as they are", mill.count(11), 1);
        due("P48 status as it is", mill.status(0), 1);
        mill.years(2);
        due("P48 once more", mill.back(), 1);
        mill.years(3);
        due("P47 another one", mill.image(), 4);
        mill.years(1);
        mill.undo();
        mill.undo();
        due("P48 to the other one", mill.back(), 4);
        due("P48 its log", mill.count(12), 4);
        mill.years(60);
        due("P48 a long log comes back", mill.back(), 4);
        due("P48 its first year", mill.log(3, 0), 2);
        mill.years(1);
        mill.image();
        mill.undo();
        mill.come(2);
        mill.show(0, 0);
        mill.years(1);
        mill.come(0);
        mill.show(1, 20);
        due("P48 one was buried in another fifth year", mill.log(0, 0) != -1 ? 1 : 0, 1);
        due("P48 back in the fifth year", mill.back(), 5);
        due("P48 nobody was buried in it", mill.log(0, 0), -1);
        Mill.tell(mill, 0, "l;l");
        due("P48 no image of another mill", mill.back(), -1);
    }
}
