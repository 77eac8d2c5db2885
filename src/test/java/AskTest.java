/** Promises 21 to 46 and 49: what is asked apart from the acts. */
public final class AskTest {
    private static final int HIDDEN = BlackMill.HIDDEN;
    private static final Check CHECK = new Check("AskTest");

    public static void main(String[] args) {
        path();
        holds();
        tells();
        twins();
        chain();
        trusts();
        out();
        spies();
        clearAndBest();
        flights();
        dare();
        shares();
        game();
        rests();
        graves();
        odds();
        ablestAndOldest();
        hides();
        order();
        safe();
        friends();
        learns();
        counts();
        CHECK.end();
    }

    private static void due(String what, long got, long want) {
        CHECK.due(what, got, want);
    }

    private static void path() {
        BlackMill mill = Mill.of("la20s0;la30s15;l");
        due("P21 half is the most it dares, row", mill.path(0, 1, 0), 1);
        due("P21 half is the most it dares, art", mill.path(0, 1, 1), 23);
        mill.leave(2);
        due("P21 all behind half, row", mill.path(0, 2, 0), 12);
        due("P21 all behind half, art", mill.path(0, 2, 1), 27);
        due("P21 five years, row", mill.path(0, 5, 0), 12222);
        due("P21 five years, art", mill.path(0, 5, 1), 20 + 3 + 4 + 4 + 5 + 5);
        due("P21 changes nothing", Mill.lad(mill, 0, 0) * 100 + Mill.lad(mill, 0, 1), 2000);
        due("P21 no year", mill.path(0, 0, 0), -1);
        due("P21 too many years", mill.path(0, 6, 0), -1);
        due("P21 no such what", mill.path(0, 1, 2), -1);
        due("P21 no such what, below", mill.path(0, 1, -1), -1);
        due("P21 no such lad", mill.path(3, 1, 0), -1);
        due("P21 no such lad, below", mill.path(-1, 1, 0), -1);
        due("P21 one who left", mill.path(2, 1, 0), -1);
        due("P21 no mill", new BlackMill().path(0, 1, 0), -1);

        Mill.tell(mill, 1, "y:3");
        mill.law(0);
        due("P21 of several the least row", mill.path(0, 3, 0), 0);
        due("P21 of several, art", mill.path(0, 3, 1), 29);
        Mill.tell(mill, 1, "y:s=a/2&y<2?9;y:s=a?5");
        mill.law(1);
        due("P21 rows from the first year on", mill.path(0, 3, 0), 112);
        due("P21 rows from the first year on, art", mill.path(0, 3, 1), 43);

        due("P21 it can't live on, row", Mill.of("lk2;lk3;lk3").path(0, 1, 0), -1);
        due("P21 it can't live on, art", Mill.of("lk2;lk3;lk3").path(0, 1, 1), -1);
        due("P21 it lives on for a year", Mill.of("lk2;lk2;la60s60").path(0, 1, 1), 13);
        due("P21 but for no more", Mill.of("lk2;lk2s6;lk3").path(0, 2, 1), -1);
        due("P21 no more than 99", Mill.of("la60s0;lk2s5", "y:9").path(0, 5, 1), 99);

        due("P21 others grow older by the master", Mill.of("sy9;l;lk3", "y:o-16").path(1, 2, 1), 17);
        due("P21 the master's lesson", Mill.of("sl7;la0s0;l").path(0, 1, 1), 7);

        mill = Mill.of("la20f1;la15s12f0");
        due("P21 not warned", mill.path(0, 1, 0), 1);
        mill.warn(1);
        due("P21 warned", mill.path(0, 1, 0), 2);
        mill = Mill.of("la20f2;la15s13;la15s13f0");
        mill.warn(2);
        due("P21 warned in the first year alone", mill.path(0, 2, 0), 21);
    }

    private static void holds() {
        BlackMill mill = Mill.of("ls7;ls9;ls8;lk3;ls9");
        int[] due = {4, 1, 3, -1, 2};
        for (int i = 0; i < due.length; i++) {
            due("P22 lad " + i, mill.holds(i), due[i]);
        }
        due("P22 changes nothing", mill.count(6), 31);
        due("P22 no such lad", mill.holds(5), -1);
        due("P22 no such lad, below", mill.holds(-1), -1);
        mill.leave(1);
        due("P22 one who left", mill.holds(1), -1);
        due("P22 without it", mill.holds(4), 1);
        mill = Mill.of("ls9f1;ls8f0;ls7");
        mill.warn(1);
        due("P22 warned in the first year alone", mill.holds(0), 2);
        due("P22 another is ahead", mill.holds(1), 1);
        due("P22 the last one", mill.holds(2), -1);
        due("P22 no mill", new BlackMill().holds(0), -1);
    }

    private static void tells() {
        BlackMill mill = Mill.of("la20s10;la20;ls10");
        due("P23 two signs", mill.tells(0), 3);
        due("P23 by what it has not", mill.tells(1), 2);
        due("P23 one sign", mill.tells(2), 1);
        mill = Mill.of("la20s10o20;la20;ls10");
        due("P23 the fewest, not the least", mill.tells(0), 4);
        mill = Mill.of("l;l;la20s10o20k1f0");
        due("P23 of several the least", mill.tells(2), 1);
        due("P23 by whose friend it is", mill.tells(0), 32);
        due("P23 another", mill.tells(1), 33);
        mill = Mill.of("l;l;l;lk1");
        due("P23 it can't be told", mill.tells(0), -1);
        due("P23 it can", mill.tells(3), 8);
        due("P23 no such lad", mill.tells(4), -1);
        due("P23 no such lad, below", mill.tells(-1), -1);
        mill.leave(1);
        due("P23 one who left", mill.tells(1), -1);
        mill.leave(2);
        due("P23 from those who live", mill.tells(0), 8);
        mill.leave(3);
        due("P23 the last one", mill.tells(0), 0);
    }

    private static void twins() {
        BlackMill mill = Mill.of("l;l;la20;l;la20");
        int[] due = {1, 3, 13, 24};
        due("P24 how many", mill.twins(-1), 4);
        for (int i = 0; i < due.length; i++) {
            due("P24 the pair " + i, mill.twins(i), due[i]);
        }
        due("P24 no such", mill.twins(4), -1);
        due("P24 no such, below", mill.twins(-2), -1);
        mill.leave(0);
        due("P24 of those who live", mill.twins(-1), 2);
        due("P24 the first of them", mill.twins(0), 13);
        due("P24 no mill", new BlackMill().twins(-1), -1);
    }

    private static void chain() {
        BlackMill mill = Mill.of("lf1;lf2;lf0;lf0;l");
        due("P25 three steps", mill.chain(3, 2), 3);
        due("P25 one step", mill.chain(0, 1), 1);
        due("P25 to itself", mill.chain(0, 0), 0);
        due("P25 round and round", mill.chain(0, 3), -1);
        due("P25 without a friend", mill.chain(4, 0), -1);
        due("P25 itself without a friend", mill.chain(4, 4), 0);
        due("P25 no such one", mill.chain(5, 0), -1);
        due("P25 no such other", mill.chain(0, 5), -1);
        due("P25 below", mill.chain(-1, -1), -1);
        mill.leave(1);
        due("P25 by those who live", mill.chain(3, 2), -1);
        due("P25 to one who left", mill.chain(0, 1), -1);
        due("P25 from one who left", mill.chain(1, 2), -1);
        due("P25 from one who left to itself", mill.chain(1, 1), -1);
        due("P25 still", mill.chain(3, 0), 1);
        due("P25 seven steps", Mill.of("lf1;lf2;lf3;lf4;lf5;lf6;lf7;lf0").chain(1, 0), 7);
        due("P25 by a spy too", Mill.of("lf1;lf2k3;l").chain(0, 2), 2);
    }

    private static void trusts() {
        BlackMill mill = Mill.of("lf1;lf2;lf0k3;lf2;l");
        int[] due = {3, 2, 7, 8, 16};
        for (int i = 0; i < due.length; i++) {
            due("P26 lad " + i, mill.trusts(i), due[i]);
        }
        due("P26 no such lad", mill.trusts(5), -1);
        due("P26 no such lad, below", mill.trusts(-1), -1);
        mill.leave(1);
        due("P26 no friend who lives", mill.trusts(0), 1);
        due("P26 one who left", mill.trusts(1), -1);
        due("P26 round and round", Mill.of("lf1;lf0;l").trusts(1), 3);
        due("P26 into a ring", Mill.of("lf1;lf2;lf1").trusts(0), 7);
        due("P26 all eight", Mill.of("lf1;lf2;lf3;lf4;lf5;lf6;lf7;lf0").trusts(4), 255);
    }

    private static void out() {
        BlackMill mill = Mill.of("l;l;l");
        due("P27 no mill", new BlackMill().out(1, true), -1);
        due("P27 none of them", mill.out(0, true), -1);
        due("P27 below", mill.out(-1, true), -1);
        due("P27 no such lads", mill.out(8, false), -1);
        for (int i = 1; i <= 10; i++) {
            due("P27 how many", mill.out(7, i > 5), i);
        }
        due("P27 an eleventh", mill.out(1, true), -1);
        due("P27 counted", mill.count(10), 10);
        mill.undo();
        due("P27 no act", mill.count(10), 10);
    }

    private static void spies() {
        BlackMill mill = Mill.of("l;l;l;l");
        int[] pairs = {3, 5, 6, 9, 10, 12};
        due("P28 all pairs", mill.spies(2, -1), 6);
        for (int i = 0; i < pairs.length; i++) {
            due("P28 pair " + i, mill.spies(2, i), pairs[i]);
        }
        due("P28 no such pair", mill.spies(2, 6), -1);
        due("P28 no such, below", mill.spies(2, -2), -1);
        due("P28 all of three", mill.spies(3, -1), 4);
        due("P28 no spy", mill.spies(0, -1), -1);
        due("P28 four spies", mill.spies(4, -1), -1);
        due("P28 no mill", new BlackMill().spies(1, -1), -1);
        mill.leave(0);
        mill.out(3, true);
        mill.out(6, false);
        due("P28 one", mill.spies(1, -1), 1);
        due("P28 who left", mill.spies(1, 0), 1);
        due("P28 two", mill.spies(2, -1), 1);
        due("P28 who they are", mill.spies(2, 0), 9);
        due("P28 no three", mill.spies(3, -1), 0);
        due("P28 no three at all", mill.spies(3, 0), -1);
        due("P28 three of two", Mill.of("l;l").spies(3, -1), 0);
        mill.out(1, false);
        due("P28 nobody", mill.spies(1, -1), 0);
    }

    private static void clearAndBest() {
        BlackMill mill = Mill.of("l;l;l;l");
        due("P29 nobody yet", mill.clear(1), 0);
        due("P30 pairs", mill.best(2), 0);
        due("P30 singles", mill.best(1), 0);
        mill.out(6, true);
        due("P29 two of them", mill.clear(1), 9);
        due("P30 one of two", mill.best(1), 1);
        due("P29 pairs", mill.clear(2), 0);
        due("P30 two of five pairs or three", mill.best(2), 0);
        due("P30 three of four", mill.best(3), 0);
        mill.out(2, false);
        due("P29 it is the other", mill.clear(1), 11);
        due("P30 nothing to tell apart", mill.best(1), 0);
        mill.leave(0);
        due("P29 all lads told", mill.clear(2), 2);
        due("P30 all lads told", mill.best(2), 0);
        mill.out(1, false);
        due("P29 who is left", mill.clear(2), 3);
        mill.out(15, false);
        for (int k = 1; k <= 3; k++) {
            due("P29 nothing fits", mill.clear(k), -1);
            due("P30 nothing fits", mill.best(k), -1);
        }
        BlackMill free = Mill.of("l;l");
        due("P29 no spy", free.clear(0), -1);
        due("P29 four spies", free.clear(4), -1);
        due("P29 three of two", free.clear(3), -1);
        due("P30 no spy", free.best(0), -1);
        due("P30 four spies", free.best(4), -1);
        due("P30 three of two", free.best(3), -1);
        due("P29 no mill", new BlackMill().clear(1), -1);
        due("P30 no mill", new BlackMill().best(1), -1);
    }

    private static void flights() {
        BlackMill mill = Mill.of("sh10;l;l;w;wa1b2h3;wa0b2h9;wa3b4;wa3b4h1");
        int[] due = {0, 2, 5, -1, -1, -1};
        for (int place = 0; place < 6; place++) {
            due("P31 place " + place, mill.flight(place), due[place]);
        }
        due("P31 no such place", mill.flight(6), -1);
        due("P31 no such place, below", mill.flight(-1), -1);
        due("P31 no mill", new BlackMill().flight(0), -1);
        due("P32 there and back just in time", mill.reach(), 7);
        due("P32 no mill", new BlackMill().reach(), -1);
        String far = "l;l;wa5b4h1;wa4b3h1;wa3b2h1;wa2b1h1;wa1b0h1";
        mill = Mill.of(far);
        for (int place = 0; place < 6; place++) {
            due("P31 far to " + place, mill.flight(place), place);
        }
        due("P32 in six hours", mill.reach(), 15);
        due("P32 in nine hours", Mill.of(far + ";sh9").reach(), 31);
        due("P32 in one hour", Mill.of(far + ";sh1").reach(), 1);
        due("P31 the shorter of two", Mill.of("l;l;wh9;wb2h1;wa2b1h1").flight(1), 2);
        due("P31 no ways", Mill.of("l;l").flight(1), -1);
        due("P31 the mill itself without ways", Mill.of("l;l").flight(0), 0);
        due("P32 without ways", Mill.of("l;l").reach(), 1);
    }

    private static void dare() {
        String lads = "l;la30;la25;la20";
        due("P33 of several the least", Mill.of(lads).dare(), 3);
        due("P33 three", Mill.of(lads + ";sp60").dare(), 7);
        due("P33 one alone", Mill.of(lads + ";sp30").dare(), 2);
        due("P33 one power more", Mill.of(lads + ";sp31").dare(), 3);
        due("P33 all", Mill.of(lads + ";sp85").dare(), 15);
        due("P33 not enough", Mill.of(lads + ";sp86").dare(), -1);
        due("P33 the fewest, not the least", Mill.of("l;la30;la40").dare(), 4);
        BlackMill mill = Mill.of(lads);
        mill.leave(0);
        due("P33 who live", mill.dare(), 6);
        mill.leave(1);
        mill.leave(2);
        due("P33 one is not enough", mill.dare(), -1);
        due("P33 no mill", new BlackMill().dare(), -1);
    }

    private static void shares() {
        BlackMill mill = Mill.of("sp30;la30;l;l");
        int[] one = {6, 0, 0};
        BlackMill even = Mill.of("sp20;l;l;l");
        BlackMill odd = Mill.of("la10;la30;la25;la20");
        for (int i = 0; i < 3; i++) {
            due("P34 one alone has enough " + i, mill.shares(i), one[i]);
            due("P34 all alike " + i, even.shares(i), 2);
        }
        int all = 0;
        for (int i = 0; i < 4; i++) {
            all += odd.shares(i);
        }
        due("P34 all orders", all, 24);
        due("P34 the weakest", odd.shares(0), weakest());
        due("P34 the fourth", Mill.of("sp40;l;l;l;l").shares(2), 6);
        due("P34 the fifth", Mill.of("sp41;l;l;l;l;l").shares(0), 24);
        due("P34 never enough", Mill.of("sp99;l;l").shares(0), 0);
        BlackMill many = Mill.of("sp10;l;l;l;l;l;l");
        due("P34 six live", many.shares(0), HIDDEN);
        many.leave(5);
        due("P34 five live", many.shares(0), 24);
        due("P34 one who left", many.shares(5), HIDDEN);
        due("P34 no such lad", many.shares(6), HIDDEN);
        due("P34 no such lad, below", many.shares(-1), HIDDEN);
        due("P34 no mill", new BlackMill().shares(0), HIDDEN);
        for (int i = 0; i < 3; i++) {
            many.leave(i);
        }
        due("P34 two live", many.shares(3), 1);
        due("P34 two live, the other", many.shares(4), 1);
    }

    /** Lad 0 (10) of 10, 30, 25, 20 with a power of 40: behind 30 alone, or behind nobody else. */
    private static int weakest() {
        int orders = 0;
        int[] art = {10, 30, 25, 20};
        for (int a = 0; a < 4; a++) {
            for (int b = 0; b < 4; b++) {
                for (int c = 0; c < 4; c++) {
                    int d = 6 - a - b - c;
                    if (a != b && a != c && b != c && d >= 0 && d < 4 && d != a && d != b && d != c) {
                        int[] row = {a, b, c, d};
                        int sum = 0;
                        for (int i = 0; i < 4; i++) {
                            if (sum < 40 && sum + art[row[i]] >= 40 && row[i] == 0) {
                                orders++;
                            }
                            sum += art[row[i]];
                        }
                    }
                }
            }
        }
        return orders;
    }

    private static void game() {
        BlackMill mill = Mill.of("la20;la30;ls7;l");
        int[][] due = {{2, 2}, {2, -45}, {-46, 2}, {4, -45}};
        for (int play = 0; play < 4; play++) {
            for (int what = 0; what < 2; what++) {
                due("P35 play " + play + ", " + what, mill.game(0, 1, play / 2, play % 2, what), due[play][what]);
                due("P35 the other way " + play + ", " + what,
                    mill.game(1, 0, play % 2, play / 2, 1 - what), due[play][what]);
            }
        }
        due("P35 changes nothing", Mill.lad(mill, 0, 1), 5);
        due("P35 alike", mill.game(1, 1, 0, 0, 0), HIDDEN);
        due("P35 no such one", mill.game(4, 1, 0, 0, 0), HIDDEN);
        due("P35 no such other", mill.game(0, -1, 0, 0, 0), HIDDEN);
        due("P35 x above", mill.game(0, 1, 2, 0, 0), HIDDEN);
        due("P35 x below", mill.game(0, 1, -1, 0, 0), HIDDEN);
        due("P35 y above", mill.game(0, 1, 0, 2, 0), HIDDEN);
        due("P35 y below", mill.game(0, 1, 0, -1, 0), HIDDEN);
        due("P35 what above", mill.game(0, 1, 0, 0, 2), HIDDEN);
        due("P35 what below", mill.game(0, 1, 0, 0, -1), HIDDEN);
        mill.leave(1);
        due("P35 one left", mill.game(0, 1, 0, 0, 0), HIDDEN);
        due("P35 the other left", mill.game(1, 0, 0, 0, 0), HIDDEN);
        due("P35 nothing is nothing", Mill.of("l;l;la60s60k2", "y:s").game(0, 1, 0, 0, 0), 0);
        due("P35 nothing for the other", Mill.of("l;l;la60s60k2", "y:s").game(0, 1, 0, 0, 1), 0);
        due("P35 by a law", Mill.of("la20;la30;l", "y:s/10+n").game(0, 1, 1, 1, 0), 5);
        mill = Mill.of("la20f1;la15f0;ls7");
        mill.warn(1);
        due("P35 warned", mill.game(0, 1, 1, 1, 0), 4);
        due("P35 the other is feared more", mill.game(0, 1, 1, 1, 1), -47);
    }

    private static void rests() {
        BlackMill mill = Mill.of("la20;la30;ls7;l");
        due("P36 one", mill.rests(0, 1, -1), 1);
        due("P36 nothing shown", mill.rests(0, 1, 0), 0);
        due("P36 no such", mill.rests(0, 1, 1), -1);
        due("P36 no such, below", mill.rests(0, 1, -2), -1);
        mill.show(2, 10);
        Mill.tell(mill, 1, "y:3");
        mill.law(0);
        BlackMill free = Mill.of("l;l;la60s60k2", "y:3");
        int[] all = {0, 1, 10, 11};
        due("P36 none has more", free.rests(0, 1, -1), 4);
        for (int i = 0; i < 4; i++) {
            due("P36 the rest " + i, free.rests(0, 1, i), all[i]);
        }
        due("P36 a fifth", free.rests(0, 1, 4), -1);
        BlackMill bold = Mill.of("la30;la20;la60s60k2");
        due("P36 both show all", bold.rests(0, 1, -1), 1);
        due("P36 both", bold.rests(0, 1, 0), 11);
        due("P36 who shows nothing anyway", Mill.of("la30;la0s0;la60s60k2").rests(0, 1, -1), 2);
        due("P36 by either", Mill.of("la30;la0s0;la60s60k2").rests(0, 1, 1), 11);
        due("P36 by the first", Mill.of("la0s0;la30;la60s60k2").rests(0, 1, 1), 11);
        due("P36 alike", mill.rests(0, 0, -1), -1);
        due("P36 no such one", mill.rests(0, 4, -1), -1);
        mill.leave(1);
        due("P36 one left", mill.rests(0, 1, -1), -1);
        due("P36 no mill", new BlackMill().rests(0, 1, -1), -1);
    }

    private static void graves() {
        BlackMill mill = Mill.of("la20o30;la10o40;la30o20;l");
        due("P38 all", mill.dug(), 15);
        due("P37 no such sort", mill.grave(2, 0, true), -1);
        due("P37 no such sort, below", mill.grave(-1, 0, true), -1);
        due("P37 above", mill.grave(0, 100, true), -1);
        due("P37 below", mill.grave(1, -1, true), -1);
        due("P37 no mill", new BlackMill().grave(0, 0, true), -1);
        due("P38 no mill", new BlackMill().dug(), -1);
        due("P37 one", mill.grave(0, 30, true), 1);
        due("P38 of an age of 30 or more", mill.dug(), 3);
        due("P37 two", mill.grave(1, 20, false), 2);
        due("P38 without the art", mill.dug(), 2);
        mill.leave(1);
        due("P38 who left too", mill.dug(), 2);
        mill.years(1);
        due("P38 who is buried too", mill.count(6), 12);
        mill.years(2);
        due("P38 as they are now", mill.dug(), 2);
        mill.come(1);
        due("P38 a new one", mill.dug(), 0);
        mill.undo();
        for (int i = 3; i <= 10; i++) {
            due("P37 more", mill.grave(0, 99, false), i);
        }
        due("P37 an eleventh", mill.grave(0, 0, true), -1);
        due("P37 counted", mill.count(11), 10);
        mill = Mill.of("la20;la19;l");
        mill.grave(1, 20, true);
        due("P38 an art of 20 or more", mill.dug(), 1);
        mill.grave(1, 0, false);
        due("P38 nobody", mill.dug(), 0);
        mill = Mill.of("lo20;lo19;l");
        mill.grave(0, 20, false);
        due("P38 younger", mill.dug(), 6);
    }

    private static void odds() {
        BlackMill mill = Mill.of("ls0;ls1;lk3;lk3");
        due("P39 no year", mill.odds(0, 0), 1000000000);
        due("P39 one of three lots", mill.odds(0, 1), 666666667);
        due("P39 two of three lots", mill.odds(1, 1), 333333334);
        due("P39 in two years", mill.odds(1, 2), 111111112);
        due("P39 a spy", mill.odds(2, 30), 1000000000);
        due("P39 below", mill.odds(0, -1), -1);
        due("P39 above", mill.odds(0, 31), -1);
        due("P39 no such lad", mill.odds(4, 1), -1);
        due("P39 no such lad, below", mill.odds(-1, 1), -1);
        mill.leave(0);
        due("P39 one who left", mill.odds(0, 1), -1);
        due("P39 all lots", mill.odds(1, 1), 0);
        mill.leave(1);
        due("P39 no lots", mill.odds(2, 5), 1000000000);
        due("P39 one lot in all", Mill.of("la0s0;lk3").odds(0, 1), 0);
        due("P39 none of it", Mill.of("la0s0;lk3").odds(1, 1), 1000000000);
        due("P39 no mill", new BlackMill().odds(0, 0), -1);
        long left = 1000000000L;
        mill = Mill.of("ls9;la20k2s9;l;la41s41k1");
        for (int n = 1; n <= 30; n++) {
            left -= left * 20 / (10 + 20 + 6 + 21);
            due("P39 " + n + " years", mill.odds(1, n), left);
        }
    }

    private static void ablestAndOldest() {
        BlackMill mill = Mill.of("la20o40;la30o50;la30o20;lo50;lk3a60");
        due("P40 ablest", mill.ablest(), 4);
        due("P45 oldest, of several the lowest", mill.oldest(), 1);
        mill.leave(4);
        due("P40 of several the lowest", mill.ablest(), 1);
        mill.leave(1);
        due("P40 who lives", mill.ablest(), 2);
        due("P45 who lives", mill.oldest(), 3);
        due("P40 no mill", new BlackMill().ablest(), -1);
        due("P45 no mill", new BlackMill().oldest(), -1);
        mill = Mill.of("la0s0;la0s0");
        due("P40 no art at all", mill.ablest(), 0);
    }

    private static void hides() {
        BlackMill mill = Mill.of("la20s7;la30s30;l");
        due("P41 some", mill.hides(0), 13);
        due("P41 nothing", mill.hides(1), 0);
        mill.show(0, 20);
        due("P41 nothing more", mill.hides(0), 0);
        mill.years(1);
        due("P41 what it learnt", mill.hides(0), 4);
        due("P41 one who is buried", mill.hides(1), -1);
        due("P41 no such lad", mill.hides(3), -1);
        due("P41 no such lad, below", mill.hides(-1), -1);
    }

    private static void order() {
        BlackMill mill = Mill.of("ls3;lk3;la0s0k2;ls9;ls3;lk3;la17s17k1;l");
        due("P42 eight", mill.order(), 23670415);
        mill.leave(2);
        mill.leave(3);
        mill.leave(6);
        due("P42 who live", mill.order(), 70415);
        mill.leave(7);
        due("P42 0 ahead", mill.order(), 415);
        mill.leave(0);
        mill.leave(4);
        mill.leave(5);
        due("P42 one", mill.order(), 1);
        due("P42 no mill", new BlackMill().order(), -1);
    }

    private static void safe() {
        BlackMill mill = Mill.of("la20s0;la15s15;la30s0;la31k1;la5s0k2;lk3");
        due("P43 as much as another above", mill.safe(2), 15);
        due("P43 less than another below", mill.safe(0), 14);
        due("P43 all", mill.safe(3), 31);
        due("P43 old by art", mill.safe(4), 5);
        due("P43 a spy", mill.safe(5), 10);
        due("P43 not more than the next", mill.safe(1), 9);
        due("P43 changes nothing", Mill.lad(mill, 2, 1), 0);
        due("P43 no such lad", mill.safe(6), -1);
        due("P43 no such lad, below", mill.safe(-1), -1);
        mill.leave(1);
        due("P43 one who left", mill.safe(1), -1);
        due("P43 chosen all the same", Mill.of("lk2;lk3").safe(0), -1);
        due("P43 spies alone", Mill.of("lk3;lk3").safe(0), -1);
        due("P43 the other spy", Mill.of("lk3;lk3").safe(1), 10);
        BlackMill last = Mill.of("l;l");
        last.leave(1);
        due("P43 nothing at all", Mill.of("la0s0;la1s1").safe(1), 0);
        due("P43 not even nothing", Mill.of("la1s1;la0s0").safe(0), -1);
        due("P43 the last one", last.safe(0), -1);
        BlackMill warned = Mill.of("la20s0;ls6f0");
        warned.warn(1);
        due("P43 warned", warned.safe(0), 11);
    }

    private static void friends() {
        BlackMill mill = Mill.of("l;lf0;lf0;lf1");
        due("P44 two", mill.friends(0), 6);
        due("P44 one", mill.friends(1), 8);
        due("P44 none", mill.friends(3), 0);
        mill.leave(1);
        due("P44 of one who left", mill.friends(1), 8);
        due("P44 who left", mill.friends(0), 6);
        mill.come(1);
        due("P44 a new one has none", mill.friends(0), 4);
        due("P44 no such lad", mill.friends(4), -1);
        due("P44 no such lad, below", mill.friends(-1), -1);
        due("P44 no mill", new BlackMill().friends(0), -1);
    }

    private static void learns() {
        BlackMill mill = Mill.of("sl3;la60s59;l;la10s10k3");
        due("P46 by what it shows", mill.learns(0), 8);
        due("P46 less", mill.learns(1), 3);
        due("P46 a spy too", mill.learns(2), 4);
        due("P46 no more than 9", Mill.of("sl9;la60s60;l").learns(0), 9);
        due("P46 no such lad", mill.learns(3), -1);
        due("P46 no such lad, below", mill.learns(-1), -1);
        mill.leave(0);
        due("P46 one who left", mill.learns(0), -1);
        due("P46 no mill", new BlackMill().learns(0), -1);
        Mill.tell(mill, 1, "y:n*y");
        mill.law(0);
        due("P46 by a law", mill.learns(1), 0);
        mill.years(1);
        due("P46 by a law, later", mill.learns(2), 1);
    }

    private static void counts() {
        BlackMill mill = Mill.of("la20f1;lf2;lf0;w;wb3");
        Mill.tell(mill, 1, "y:2");
        Mill.tell(mill, 1, "y:3");
        mill.law(1);
        Mill.feed(mill, "abc");
        mill.years(1);
        mill.warn(1);
        mill.bold(8);
        mill.out(1, true);
        mill.out(2, false);
        mill.grave(0, 1, true);
        int[] due = {3, 2, 2, 3, 1, 1, 6, 26, 4, 8, 2, 1, 1, 2};
        for (int what = 0; what < due.length; what++) {
            due("P49 count " + what, mill.count(what), due[what]);
        }
        due("P49 above", mill.count(14), HIDDEN);
        due("P49 below", mill.count(-1), HIDDEN);
    }
}
