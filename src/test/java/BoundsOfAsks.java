/** Boundary cases of what is asked: the third part of the Terms, promises 21 to 46 and 49. */
final class BoundsOfAsks extends Bounds {
    BoundsOfAsks(Doc doc) {
        super(doc);
    }

    void run() {
        in("Terms 3");
        apart();
        paths();
        holding();
        signs();
        tellings();
        chains();
        secrets();
        ways();
        daring();
        games();
        graves();
        odds();
        ofAll();
        ofOne();
        pathAndHolds();
        tellsAndTwins();
        chainAndTrusts();
        outAndSpies();
        clearAndBest();
        flightAndReach();
        dareAndShares();
        gameAndRests();
        graveAndDug();
        oddsOfOne();
        othersOfAll();
        othersOfOne();
        count();
    }

    // ---- what is asked in general ----

    /** A call that asks of a lad. */
    private interface OfOne {
        long of(BlackMill mill, int lad);
    }

    /** A mill of which lad 0 left and lad 1 is buried; 2 and 3 live. */
    private static BlackMill halfEmpty() {
        BlackMill mill = Mill.of("lf2;lk2f2;la20s6f3;lf2");
        mill.leave(0);
        mill.years(1);
        return mill;
    }

    private void noSuchOne(String words, OfOne asks, long want) {
        says(words);
        due("below", asks.of(halfEmpty(), -1), want);
        due("far below", asks.of(halfEmpty(), Integer.MIN_VALUE), want);
        due("above", asks.of(halfEmpty(), 4), want);
        due("far above", asks.of(halfEmpty(), Integer.MAX_VALUE), want);
        due("no mill", asks.of(new BlackMill(), 0), want);
        due("one that there is", asks.of(halfEmpty(), 2) != want, true);
    }

    private void notLiving(String words, OfOne asks, long want) {
        says(words);
        due("one who left", asks.of(halfEmpty(), 0), want);
        due("one who is buried", asks.of(halfEmpty(), 1), want);
        due("one who lives", asks.of(halfEmpty(), 2) != want, true);
    }

    private void noMill(String words, OfOne asks) {
        says(words);
        due("no mill", asks.of(new BlackMill(), 0), NONE);
        due("a mill", asks.of(Mill.of("sp9;l;l"), 0) != NONE, true);
    }

    private void apart() {
        says("(Apart, from as it is now; YEARS go on behind 999.)");
        BlackMill mill = Mill.of("la20s12f1;lf0;lf0;lk3;w;wa1b2");
        mill.warn(2);
        mill.out(1, true);
        mill.grave(0, 3, true);
        String before = Mill.all(mill);
        for (int lad = 0; lad < 4; lad++) {
            mill.path(lad, 3, 0);
            mill.holds(lad);
            mill.safe(lad);
            mill.game(lad, 3 - lad, 1, 1, 0);
            mill.rests(lad, 3 - lad, 0);
            mill.tells(lad);
            mill.shares(lad);
            mill.odds(lad, 30);
        }
        mill.best(2);
        due("as it was", before.equals(Mill.all(mill)), true);
        due("one act", mill.count(13), 1);
        due("nothing refused", refused(mill), 0);

        mill = Mill.of("l;l;l", "y:y>999?9;y:1");
        for (int i = 0; i < 16; i++) {
            mill.years(60);
        }
        mill.years(39);
        mill.come(0);
        mill.come(1);
        due("art behind 999", mill.path(1, 3, 1), 19);
        due("who is buried first", mill.holds(2), 1);
        due("who is buried then", mill.holds(0), 2);
        due("who is never", mill.holds(1), NONE);
        due("the year", mill.count(5), 999);
    }

    // ---- years to come ----

    private void paths() {
        says("PATH of a LAD that LIVES and n (1 .. 5) YEARS");
        BlackMill mill = Mill.of("la20s0;lk2");
        due("0", mill.path(0, 0, 1), NONE);
        due("1", mill.path(0, 1, 1), 23);
        due("5", mill.path(0, 5, 1), 41);
        due("6", mill.path(0, 6, 1), NONE);
        says("ahead of each it SHOWS nothing (0), half of its ART, cut (1), or all (2)");
        due("nothing", Mill.of("la7;lk2", "y:s=0?9;y:1").path(0, 1, 0), 0);
        due("half", Mill.of("la7;lk2", "y:s=3?9;y:1").path(0, 1, 0), 1);
        due("half is cut", Mill.of("la7;lk2", "y:s=4?9;y:s=7?5;y:1").path(0, 1, 1), 12);
        due("all", Mill.of("la7;lk2", "y:s=7?9;y:1").path(0, 1, 0), 2);
        due("not what it does", Mill.of("la7s5;lk2", "y:s=5?9;y:1").path(0, 1, 1), 8);
        says("(nobody WARNS, who is WARNED now is so in the first YEAR)");
        mill = Mill.of("la20f2;la15s13;la15s13f0");
        due("not warned", mill.path(0, 2, 0), 11);
        mill.warn(2);
        due("warned in the first year", mill.path(0, 2, 0), 21);
        says("the most ART that it can have then without being BURIED");
        due("it would be", Mill.of("lk2;lk3").path(0, 1, 1), NONE);
        due("all is too much", Mill.of("la20;lk2").path(0, 1, 0), 1);
        due("as much as another of a greater number", Mill.of("la20;ls10").path(0, 1, 0), 0);
        due("as much as another of a lower number", Mill.of("ls10;la20").path(1, 1, 0), 1);
        mill = Mill.of("la20;l");
        mill.leave(1);
        due("the last one", mill.path(0, 5, 0), 22222);
        says("(digits, the first the highest; of several the least)");
        due("all alike", Mill.of("la20;lk2", "y:3").path(0, 5, 0), 0);
        due("half or all", Mill.of("la20;lk2;lk2", "y:s>0?3").path(0, 2, 0), 11);
        due("the last year apart", Mill.of("la20;lk2", "y:y=2&s=a?5;y:y<2&s=a/2?9").path(0, 3, 0), 112);
        due("the first year apart", Mill.of("la14;lk2", "y:y=0&s=a?5").path(0, 3, 0), 200);
    }

    // No lad holds for more than seven years but the last one: one of eight is buried in each.
    private void holding() {
        says("HOLDS of one: behind how many YEARS (1 .. 30) it is BURIED, as all SHOW now");
        BlackMill mill = Mill.of("ls1;ls2;ls3;ls4;ls5;ls6;ls7;ls8");
        for (int lad = 1; lad < 8; lad++) {
            due("lad " + lad, mill.holds(lad), 8 - lad);
        }
        due("the last one", mill.holds(0), NONE);
        mill = Mill.of("ls9f1;ls8f0;ls7;ls3");
        mill.warn(1);
        due("warned in the first year alone", mill.holds(0), 2);
        due("ahead of it", mill.holds(1), 1);
        due("behind it", mill.holds(2), 3);
    }

    // ---- signs ----

    private static long signsOf(String lad) {
        return Mill.lad(Mill.of(lad + ";l"), 0, 8);
    }

    private void signs() {
        says("0 ART of 20 or more");
        due("20", signsOf("la20"), 1);
        due("19", signsOf("la19"), 0);
        says("1 SHOWN of 10 or more");
        due("10", signsOf("ls10"), 2);
        due("9", signsOf("ls9"), 0);
        says("2 AGE of 20 or more");
        due("20", signsOf("lo20"), 4);
        due("19", signsOf("lo19"), 0);
        says("3 a KIND above 0");
        due("0", signsOf("lk0"), 0);
        for (int kind = 1; kind <= 3; kind++) {
            due("kind " + kind, signsOf("lk" + kind), 8);
        }
        says("4 a FRIEND that LIVES");
        BlackMill mill = Mill.of("lf1;l;l");
        due("it lives", Mill.lad(mill, 0, 8), 16);
        due("no friend", Mill.lad(mill, 2, 8), 0);
        mill.leave(1);
        due("it left", Mill.lad(mill, 0, 8), 0);
        says("5 it is the FRIEND of one who LIVES");
        mill = Mill.of("lf1;l;l");
        due("it lives", Mill.lad(mill, 1, 8), 32);
        mill.leave(0);
        due("it left", Mill.lad(mill, 1, 8), 0);
        due("of one of two", Mill.lad(Mill.of("l;lf0;lf0"), 0, 8), 32);
    }

    private void tellings() {
        says("TELLS of a LAD that LIVES: the fewest SIGNS (bits; of several the least)");
        due("one of two", Mill.of("l;la20s10").tells(0), 1);
        due("one higher, not two lower", Mill.of("la20s10o20;la20;ls10").tells(0), 4);
        due("one of three", Mill.of("l;l;la20s10o20k1f0").tells(2), 1);
        due("the highest", Mill.of("l;l;la20s10o20k1f0").tells(0), 32);
        says("(each in one of these at least)");
        BlackMill mill = Mill.of("la20s10;la20;ls10");
        due("two", mill.tells(0), 3);
        due("one that it has not", mill.tells(1), 2);
        due("another one", mill.tells(2), 1);
        mill.leave(1);
        due("of one who lives", mill.tells(0), 1);
        mill.leave(2);
        due("of nobody else", mill.tells(0), 0);
        says("pairs (10 times the lower and the other) of those who LIVE alike in all SIGNS: how many, the i-th (rising)");
        mill = Mill.of("l;la20;l;la20;l");
        int[] pairs = {2, 4, 13, 24};
        due("how many", mill.twins(NONE), 4);
        for (int i = 0; i < 4; i++) {
            due("pair " + i, mill.twins(i), pairs[i]);
        }
        mill.leave(0);
        due("how many live", mill.twins(NONE), 2);
        due("the first of them", mill.twins(0), 13);
        due("in five signs alone", Mill.of("l;lf0").twins(NONE), 0);
    }

    private void chains() {
        says("by FRIENDS that LIVE, from each to its FRIEND: the fewest steps (0 to itself)");
        BlackMill mill = Mill.of("lf1;lf2;lf3;lf4;lf5;lf6;lf7;l");
        for (int lad = 0; lad < 8; lad++) {
            due("from " + lad, mill.chain(lad, 7), 7 - lad);
        }
        due("not from its friend", mill.chain(1, 0), NONE);
        due("round", Mill.of("lf1;lf2;lf0").chain(1, 0), 2);
        mill.leave(3);
        due("not by one who left", mill.chain(2, 4), NONE);
        due("behind it", mill.chain(4, 7), 3);
        says("itself (SPY or not) and LADS that it comes to so, up to a SPY (that one not)");
        mill = Mill.of("lf1;lf2;lk3f3;lf4;l");
        int[] trusted = {3, 2, 28, 24, 16};
        for (int lad = 0; lad < 5; lad++) {
            due("trusted by " + lad, mill.trusts(lad), trusted[lad]);
        }
        mill.leave(3);
        due("not by one who left", mill.trusts(2), 4);
        due("round", Mill.of("lf1;lf2;lf1").trusts(0), 7);
        due("round by a spy", Mill.of("lk3f1;lf0").trusts(0), 3);
    }

    // ---- secrets ----

    private void secrets() {
        says("OUT (10 at most): a secret told to some (bits) got out, or not");
        BlackMill mill = Mill.of("l;l;l;l");
        for (int i = 1; i <= 10; i++) {
            due("one more", mill.out(i < 10 ? 15 : 1, i < 10), i);
        }
        due("an eleventh", mill.out(15, true), NONE);
        due("the tenth counts", mill.spies(1, NONE), 3);
        says("SPIES by k (1, 2, 3): sets of k of all LADS told (bits) by which all OUT is so");
        mill = Mill.of("l;l;l;l");
        int[] many = {NONE, 4, 6, 4, NONE};
        for (int k = 0; k <= 4; k++) {
            due("sets of " + k, mill.spies(k, NONE), many[k]);
        }
        mill.leave(0);
        due("who left, too", mill.spies(1, 0), 1);
        due("more than there are", Mill.of("l;l").spies(3, NONE), 0);
        says("it got out just if a SPY knew it: how many, the i-th (rising)");
        mill.out(3, true);
        int[] pairs = {3, 5, 6, 9, 10};
        due("pairs with one who knew", mill.spies(2, NONE), 5);
        for (int i = 0; i < 5; i++) {
            due("pair " + i, mill.spies(2, i), pairs[i]);
        }
        mill.out(6, false);
        due("without those who knew", mill.spies(2, NONE), 1);
        due("the pair", mill.spies(2, 0), 9);
        says("CLEAR for k: LADS (bits) in none of these.");
        due("of pairs", mill.clear(2), 6);
        due("of one", mill.clear(1), 14);
        mill = Mill.of("l;l;l;l");
        mill.out(1, false);
        due("the first", mill.clear(1), 1);
        due("the first in no pair", mill.clear(2), 1);
        says("the LAD for which yes and no are least apart in number among what fits (of several the lowest)");
        due("all alike", Mill.of("l;l;l;l").best(2), 0);
        mill = Mill.of("l;l;l;l;l");
        mill.out(12, true);
        due("four of seven, not two of seven", mill.best(2), 2);
        mill = Mill.of("l;l;l;l");
        mill.out(1, true);
        due("one of three, not all of three", mill.best(2), 1);
        due("one for certain", mill.best(1), 0);
    }

    // ---- flights and daring ----

    private void ways() {
        says("the fewest HOURS by WAYS (both ways) from the MILL to a PLACE");
        BlackMill mill = Mill.of("l;l;wa2b1h1;wa2b0h1;wh9;wa2b3h9;wa3b2h8");
        int[] hours = {0, 2, 1, 9, NONE, NONE};
        for (int place = 0; place < 6; place++) {
            due("to " + place, mill.flight(place), hours[place]);
        }
        due("by five ways", Mill.of("l;l;wa5b4h1;wa4b3h1;wa3b2h1;wa2b1h1;wa1b0h1").flight(5), 5);
        due("no ways", Mill.of("l;l").flight(0), 0);
        says("PLACES (bits) to which one can fly and come back in HOURS till midnight");
        due("6 of 6", Mill.of("sh6;l;l;wh3").reach(), 3);
        due("6 of 5", Mill.of("sh5;l;l;wh3").reach(), 1);
        due("6 of 7", Mill.of("sh7;l;l;wh3").reach(), 3);
        due("all six", Mill.of("sh2;l;l;wh1;wb2h1;wb3h1;wb4h1;wb5h1").reach(), 63);
        due("no ways", Mill.of("l;l").reach(), 1);
    }

    private void daring() {
        says("DARE: the fewest who LIVE (bits; of several the least) whose ART together is POWER or more");
        due("as much", Mill.of("sp20;la20;l").dare(), 1);
        due("one more", Mill.of("sp19;la20;l").dare(), 1);
        due("one less", Mill.of("sp21;la20;l").dare(), 3);
        due("two of three", Mill.of("sp20;l;l;l").dare(), 3);
        due("one, not two lower", Mill.of("sp40;l;la30;la40").dare(), 4);
        due("three of four", Mill.of("sp30;l;l;l;l").dare(), 7);
        due("all eight", Mill.of("sp80;l;l;l;l;l;l;l;l").dare(), 255);
        BlackMill mill = Mill.of("sp20;la20;l;l");
        mill.leave(0);
        due("who live", mill.dare(), 6);
        says("SHARES by all orders of those who LIVE (5 at most)");
        mill = Mill.of("sp10;l;l;l;l;l;l");
        due("six", mill.shares(0), HIDDEN);
        mill.leave(5);
        due("five", mill.shares(0), 24);
        mill.leave(4);
        mill.leave(3);
        mill.leave(2);
        mill.leave(1);
        due("one", mill.shares(0), 1);
        says("that of all up to it comes to POWER first");
        int[] powers = {1, 10, 11, 20, 21};
        int[] shares = {1, 1, 1, 1, 0};
        for (int i = 0; i < 5; i++) {
            due("10 and 10 to " + powers[i], Mill.of("sp" + powers[i] + ";l;l").shares(0), shares[i]);
        }
        due("30 to 30", Mill.of("sp30;la30;l;l").shares(0), 6);
        due("30 to 31", Mill.of("sp31;la30;l;l").shares(0), 4);
        due("10 to 31", Mill.of("sp31;la30;l;l").shares(1), 1);
        due("nothing", Mill.of("sp10;la0s0;l").shares(0), 0);
        due("by those who live", mill.shares(1), HIDDEN);
    }

    // ---- games and graves ----

    private void games() {
        says("x, y what each SHOWS (0 nothing, 1 all), others as now");
        String law = "y:s/10";
        due("the one shows nothing", Mill.of("la20;la30;lk2", law).game(0, 1, 0, 1, 0), 0);
        due("the one shows all", Mill.of("la40;la20;la60s60k2", law).game(0, 1, 1, 0, 0), 4);
        due("the other shows nothing", Mill.of("la40;la20;la60s60k2", law).game(0, 1, 1, 0, 1), 0);
        due("nothing at all", Mill.of("la40;la20;la60s60k2", "y:s").game(0, 1, 0, 0, 0), 0);
        due("nothing at all by the other", Mill.of("la40;la20;la60s60k2", "y:s").game(0, 1, 0, 0, 1), 0);
        due("the other shows all", Mill.of("la40;la20;la60s60k2", law).game(0, 1, 1, 1, 1), 2);
        due("less than a third one now", Mill.of("la15;la20;la30s20", "y:5").game(0, 1, 1, 0, 0), 5);
        due("more than a third one now", Mill.of("la25;la20;la30s20", "y:5").game(0, 1, 1, 0, 0), -45);
        says("less 50, if it would be BURIED in it");
        due("who shows nothing is feared more than a spy", Mill.of("lk3;l", "y:5").game(1, 0, 0, 0, 0), -45);
        due("by the other way round, too", Mill.of("lk3;l", "y:5").game(0, 1, 0, 0, 1), -45);
        due("buried", Mill.of("la20;la20", "y:5").game(0, 1, 1, 1, 0), -45);
        due("not buried", Mill.of("la20;la20", "y:5").game(0, 1, 1, 1, 1), 5);
        due("the other is", Mill.of("la20;la20", "y:5").game(0, 1, 0, 1, 1), -45);
        due("a third one is", Mill.of("la20;la20;la11s11k2", "y:5").game(0, 1, 1, 1, 0), 5);
        due("as much as a third one", Mill.of("la20;la20;lk2s10", "y:5").game(0, 1, 1, 1, 0), -45);
        says("by which neither has more by the other of its own: how many, the i-th (rising)");
        BlackMill mill = Mill.of("l;l;la60s60k2", "y:3");
        int[] rests = {0, 1, 10, 11};
        due("all", mill.rests(0, 1, NONE), 4);
        for (int i = 0; i < 4; i++) {
            due("rest " + i, mill.rests(0, 1, i), rests[i]);
        }
        mill = Mill.of("la30;la0s0;la60s60k2");
        due("the one has more by all", mill.rests(0, 1, NONE), 2);
        due("the first of two", mill.rests(0, 1, 0), 10);
        due("the second of two", mill.rests(0, 1, 1), 11);
        due("the other has more by all", mill.rests(1, 0, 0), 1);
        due("none", Mill.of("la20;l;la20s0k2;lk3").rests(0, 2, NONE), 0);
    }

    private void graves() {
        says("GRAVES (10 at most): who dug one was of an AGE of a (0 .. 99) or more, or was not");
        BlackMill mill = Mill.of("lo20;lo19;lo21");
        due("0", mill.grave(0, 0, true), 1);
        due("all are", mill.dug(), 7);
        due("99", mill.grave(0, 99, false), 2);
        due("none is", mill.dug(), 7);
        due("20", mill.grave(0, 20, true), 3);
        due("20 or more", mill.dug(), 5);
        due("21", mill.grave(0, 21, false), 4);
        due("not 21", mill.dug(), 1);
        for (int i = 5; i <= 10; i++) {
            mill.grave(0, 20, true);
        }
        due("an eleventh", mill.grave(0, 21, true), NONE);
        due("less than 0", Mill.of("l;l").grave(0, -1, true), NONE);
        due("more than 99", Mill.of("l;l").grave(0, 100, true), NONE);
        says("had an ART of a or more, or had not");
        mill = Mill.of("la20;la19;la21");
        mill.grave(1, 20, true);
        due("20 or more", mill.dug(), 5);
        mill.grave(1, 21, false);
        due("not 21", mill.dug(), 1);
        mill.grave(1, 0, false);
        due("nobody", mill.dug(), 0);
        says("(bits; all that were told or came) by which all GRAVES is so, as they are now");
        mill = Mill.of("lo30;lk2;l;l");
        mill.grave(0, 20, false);
        due("as told", mill.dug(), 14);
        mill.leave(3);
        due("who left, too", mill.dug(), 14);
        mill.years(1);
        due("who was buried at 20", mill.dug(), 12);
        mill.come(1);
        due("one that came", mill.dug(), 14);
    }

    private void odds() {
        says("n (0 .. 30) YEARS");
        BlackMill mill = Mill.of("la0s0;ls1;lk3;lk3");
        due("below", mill.odds(0, -1), NONE);
        due("0", mill.odds(0, 0), 1000000000);
        due("30", mill.odds(0, 30) > 0, true);
        due("31", mill.odds(0, 31), NONE);
        says("FEAR and 1 of all who LIVE (a SPY 0) as they are now");
        due("a spy", mill.odds(2, 30), 1000000000);
        due("one of three", mill.odds(0, 1), 666666667);
        due("two of three", mill.odds(1, 1), 333333334);
        due("as they are now", mill.odds(1, 3), 37037038);
        mill.leave(0);
        due("two of two", mill.odds(1, 1), 0);
        says("(each YEAR what is left times its own by all, cut, is lost; nothing, if all have 0)");
        due("two years", Mill.of("la0s0;ls1;lk3").odds(0, 2), 444444445);
        due("all of 1", Mill.of("la0s0;lk3").odds(0, 1), 0);
        mill.leave(1);
        due("spies alone", mill.odds(2, 30), 1000000000);
    }

    // ---- the rest of the Terms ----

    private void ofAll() {
        says("BEST: who has the most ART of those who LIVE (of several the lowest)");
        BlackMill mill = Mill.of("la20;la30;la30");
        due("of two", mill.ablest(), 1);
        mill.leave(1);
        due("who lives", mill.ablest(), 2);
        due("no art at all", Mill.of("la0s0;la0s0").ablest(), 0);
        says("ORDER: those who LIVE as digits by FEAR (the most first, of several the lowest)");
        due("eight", Mill.of("lk3;ls6;ls9;lk3;ls9;ls6;lk2;la0s0").order(), 62415703);
        mill = Mill.of("l;l;ls6");
        due("0 behind", mill.order(), 201);
        mill.leave(2);
        due("0 ahead", mill.order(), 1);
        mill.leave(1);
        due("0 alone", mill.order(), 0);
        says("OLDEST: who LIVES with the most AGE (of several the lowest)");
        mill = Mill.of("lo20;lo30;lo30");
        due("of two", mill.oldest(), 1);
        mill.leave(1);
        due("who lives", mill.oldest(), 2);
    }

    private void ofOne() {
        says("HIDES of one: ART less SHOWN");
        due("some", Mill.of("la20s7;l").hides(0), 13);
        due("nothing", Mill.of("la20s20;l").hides(0), 0);
        says("SAFE of one: the most that it could SHOW (up to its ART) so that it would not be CHOSEN now");
        due("up to its art", Mill.of("la20s0;la11s11k2").safe(0), 20);
        due("one less than one behind it", Mill.of("la20s0;lk2s10").safe(0), 19);
        due("as much as one ahead of it", Mill.of("lk2s9;la20s0").safe(1), 19);
        due("nothing", Mill.of("la0s0;la20s0").safe(1), 0);
        due("not even nothing", Mill.of("la20s0;la0s0").safe(0), NONE);
        due("a fool", Mill.of("la40s0k1;ls9").safe(0), 17);
        says("FRIENDS of one: LADS (bits) whose FRIEND it is");
        due("all others", Mill.of("l;lf0;lf0;lf0").friends(0), 14);
        due("the first", Mill.of("lf1;l").friends(1), 1);
        due("nobody", Mill.of("lf1;l").friends(0), 0);
        says("LEARNS: what one would learn in this YEAR");
        BlackMill mill = Mill.of("la60;lk2", "y:y+n");
        due("this year", mill.learns(0), 2);
        mill.years(1);
        due("the next year", mill.learns(0), 2);
        mill.years(7);
        due("no more than 9", mill.learns(0), 9);
        mill.years(1);
        due("still", mill.learns(0), 9);
        due("with an art of 99, too", Mill.lad(mill, 0, 0) * 10 + mill.learns(0), 999);
    }

    // ---- promises 21 to 26 ----

    private void pathAndHolds() {
        in("Promise 21");
        says("NONE: it can't live on");
        due("the row", Mill.of("lk2;lk3").path(0, 1, 0), NONE);
        due("the art", Mill.of("lk2;lk3").path(0, 1, 1), NONE);
        due("for a year it can", Mill.of("lk2;lk2s6;lk3").path(0, 1, 1), 12);
        due("for two it can't", Mill.of("lk2;lk2s6;lk3").path(0, 2, 1), NONE);
        noSuchOne("no such one", (mill, lad) -> mill.path(lad, 1, 0), NONE);
        notLiving("it does not LIVE", (mill, lad) -> mill.path(lad, 1, 0), NONE);
        says("out of bounds");
        for (int n : new int[] {Integer.MIN_VALUE, -1, 0, 6, Integer.MAX_VALUE}) {
            due("n " + n, Mill.of("l;lk2").path(0, n, 0), NONE);
        }
        due("what below", Mill.of("l;lk2").path(0, 1, -1), NONE);
        due("what above", Mill.of("l;lk2").path(0, 1, 2), NONE);

        in("Promise 22");
        says("NONE: not within 30");
        due("a spy", Mill.of("l;lk3").holds(1), NONE);
        due("the last one", Mill.of("l;l").holds(1), NONE);
        due("within one", Mill.of("l;l").holds(0), 1);
        noSuchOne("no such one", BlackMill::holds, NONE);
        notLiving("it does not LIVE", BlackMill::holds, NONE);
    }

    private void tellsAndTwins() {
        in("Promise 23");
        says("NONE: it can't be told");
        due("alike", Mill.of("l;l;la20").tells(0), NONE);
        due("unlike", Mill.of("l;l;la20").tells(2), 1);
        noSuchOne("no such one", BlackMill::tells, NONE);
        notLiving("it does not LIVE", BlackMill::tells, NONE);

        in("Promise 24");
        says("how many (i NONE), the i-th");
        due("how many", Mill.of("l;l;l").twins(NONE), 3);
        due("the first", Mill.of("l;l;l").twins(0), 1);
        due("the last", Mill.of("l;l;l").twins(2), 12);
        says("NONE: no such one");
        due("above", Mill.of("l;l;l").twins(3), NONE);
        due("below", Mill.of("l;l;l").twins(-2), NONE);
        due("of none", Mill.of("l;la20").twins(0), NONE);
        due("none", Mill.of("l;la20").twins(NONE), 0);
        noMill("no MILL", (mill, lad) -> mill.twins(NONE));
    }

    private void chainAndTrusts() {
        in("Promise 25");
        says("NONE: there is none");
        due("no friend", Mill.of("l;l").chain(0, 1), NONE);
        due("round and round", Mill.of("lf1;lf0;l").chain(0, 2), NONE);
        noSuchOne("no such ones", (mill, lad) -> mill.chain(lad, 3), NONE);
        due("no such other", halfEmpty().chain(3, 4), NONE);
        due("no such other, below", halfEmpty().chain(3, -1), NONE);
        due("no friend is no lad", Mill.of("l;l").chain(0, -1), NONE);
        notLiving("one does not LIVE", (mill, lad) -> mill.chain(lad, 3), NONE);
        due("the other left", Mill.of("lf1;l").chain(0, 1), 1);
        BlackMill mill = Mill.of("lf1;l");
        mill.leave(1);
        due("its friend left", mill.chain(0, 1), NONE);
        due("to itself, left", mill.chain(1, 1), NONE);

        in("Promise 26");
        noSuchOne("NONE: no such one", BlackMill::trusts, NONE);
        notLiving("it does not LIVE", BlackMill::trusts, NONE);
    }

    // ---- promises 27 to 30 ----

    private void outAndSpies() {
        in("Promise 27");
        noMill("NONE: no MILL", (mill, lad) -> mill.out(1, true));
        says("no such set (bits; at least one LAD)");
        due("nobody", Mill.of("l;l;l").out(0, true), NONE);
        due("below", Mill.of("l;l;l").out(-1, true), NONE);
        due("far below", Mill.of("l;l;l").out(Integer.MIN_VALUE, true), NONE);
        due("all", Mill.of("l;l;l").out(7, true), 1);
        due("one that is not", Mill.of("l;l;l").out(8, true), NONE);
        due("all of eight", Mill.of("l;l;l;l;l;l;l;l").out(255, true), 1);
        due("a ninth", Mill.of("l;l;l;l;l;l;l;l").out(256, true), NONE);
        says("there are ten");
        BlackMill mill = Mill.of("l;l;l");
        for (int i = 1; i <= 10; i++) {
            due("one more", mill.out(1, true), i);
        }
        due("an eleventh", mill.out(1, true), NONE);
        due("how many", mill.count(10), 10);

        in("Promise 28");
        says("how many (i NONE), the i-th");
        due("how many", Mill.of("l;l;l").spies(2, NONE), 3);
        due("the first", Mill.of("l;l;l").spies(2, 0), 3);
        due("the last", Mill.of("l;l;l").spies(2, 2), 6);
        says("NONE: no such one");
        due("above", Mill.of("l;l;l").spies(2, 3), NONE);
        due("above, of one", Mill.of("l;l;l").spies(1, 3), NONE);
        due("above, of three", Mill.of("l;l;l").spies(3, 1), NONE);
        due("below", Mill.of("l;l;l").spies(2, -2), NONE);
        noMill("no MILL", (some, lad) -> some.spies(1, NONE));
        says("out of bounds");
        for (int k : new int[] {-1, 0, 4, Integer.MAX_VALUE}) {
            due("k " + k, Mill.of("l;l;l;l").spies(k, NONE), NONE);
        }
    }

    private void clearAndBest() {
        OfOne clear = (mill, k) -> mill.clear(k);
        OfOne best = (mill, k) -> mill.best(k);
        in("Promise 29");
        clearOrBest(clear);
        noMill("no MILL", (mill, lad) -> mill.clear(1));
        in("Promise 30");
        clearOrBest(best);
        noMill("no MILL", (mill, lad) -> mill.best(1));
    }

    private void clearOrBest(OfOne asks) {
        says("NONE: nothing fits");
        BlackMill mill = Mill.of("l;l");
        due("three of two", asks.of(mill, 3), NONE);
        due("two of two", asks.of(mill, 2), 0);
        mill.out(3, false);
        due("no spy at all", asks.of(mill, 1), NONE);
        says("out of bounds");
        for (int k : new int[] {-1, 0, 4, Integer.MAX_VALUE}) {
            due("k " + k, asks.of(Mill.of("l;l;l;l"), k), NONE);
        }
    }

    // ---- promises 31 to 36 ----

    private void flightAndReach() {
        in("Promise 31");
        says("NONE: there is no way");
        due("none at all", Mill.of("l;l").flight(1), NONE);
        due("none from the mill", Mill.of("l;l;wa1b2").flight(2), NONE);
        says("no such PLACE (0 .. 5)");
        BlackMill mill = Mill.of("l;l;wb5");
        due("below", mill.flight(-1), NONE);
        due("0", mill.flight(0), 0);
        due("5", mill.flight(5), 2);
        due("above", mill.flight(6), NONE);
        noMill("no MILL", (some, lad) -> some.flight(0));
        in("Promise 32");
        noMill("NONE: no MILL", (some, lad) -> some.reach());
    }

    private void dareAndShares() {
        in("Promise 33");
        says("NONE: all are not enough");
        due("one less", Mill.of("sp21;l;l").dare(), NONE);
        due("just enough", Mill.of("sp20;l;l").dare(), 3);
        noMill("no MILL", (mill, lad) -> mill.dare());
        in("Promise 34");
        noSuchOne("HIDDEN: no such one", BlackMill::shares, HIDDEN);
        notLiving("it does not LIVE", BlackMill::shares, HIDDEN);
        says("more than five LIVE");
        due("six", Mill.of("l;l;l;l;l;l").shares(0), HIDDEN);
        due("five", Mill.of("l;l;l;l;l").shares(0), 24);
    }

    private void gameAndRests() {
        in("Promise 35");
        noSuchOne("HIDDEN: no such ones", (mill, lad) -> mill.game(lad, 3, 0, 0, 0), HIDDEN);
        noSuchOther((mill, lad) -> mill.game(3, lad, 0, 0, 0), HIDDEN);
        says("alike");
        due("one twice", Mill.of("l;l").game(1, 1, 0, 0, 0), HIDDEN);
        notLiving("one does not LIVE", (mill, lad) -> mill.game(lad, 3, 0, 0, 0), HIDDEN);
        due("the other left", halfEmpty().game(3, 0, 0, 0, 0), HIDDEN);
        due("the other is buried", halfEmpty().game(3, 1, 0, 0, 0), HIDDEN);
        says("out of bounds");
        for (int beyond : new int[] {-1, 2}) {
            due("x " + beyond, Mill.of("l;l").game(0, 1, beyond, 0, 0), HIDDEN);
            due("y " + beyond, Mill.of("l;l").game(0, 1, 0, beyond, 0), HIDDEN);
            due("what " + beyond, Mill.of("l;l").game(0, 1, 0, 0, beyond), HIDDEN);
        }
        in("Promise 36");
        says("how many (i NONE), the i-th");
        due("how many", Mill.of("l;l;la60s60k2", "y:3").rests(0, 1, NONE), 4);
        due("the last", Mill.of("l;l;la60s60k2", "y:3").rests(0, 1, 3), 11);
        says("NONE: no such one");
        due("above", Mill.of("l;l;la60s60k2", "y:3").rests(0, 1, 4), NONE);
        due("below", Mill.of("l;l;la60s60k2", "y:3").rests(0, 1, -2), NONE);
        notLiving("as for GAME", (mill, lad) -> mill.rests(lad, 3, NONE), NONE);
        due("the other left", halfEmpty().rests(3, 0, NONE), NONE);
        due("one twice", halfEmpty().rests(3, 3, NONE), NONE);
        noSuchOther((mill, lad) -> mill.rests(lad, 3, NONE), NONE);
        noSuchOther((mill, lad) -> mill.rests(3, lad, NONE), NONE);
    }

    private void noSuchOther(OfOne asks, long want) {
        due("below", asks.of(halfEmpty(), -1), want);
        due("above", asks.of(halfEmpty(), 4), want);
        due("no mill", asks.of(new BlackMill(), 0), want);
    }

    // ---- promises 37 to 46 and 49 ----

    private void graveAndDug() {
        in("Promise 37");
        noMill("NONE: no MILL", (mill, lad) -> mill.grave(0, 0, true));
        says("out of bounds");
        BlackMill mill = Mill.of("l;l");
        due("sort below", mill.grave(-1, 0, true), NONE);
        due("sort above", mill.grave(2, 0, true), NONE);
        for (int sort = 0; sort < 2; sort++) {
            due("a below", mill.grave(sort, -1, true), NONE);
            due("a above", mill.grave(sort, 100, true), NONE);
            due("the least", mill.grave(sort, 0, true), 2 * sort + 1);
            due("the most", mill.grave(sort, 99, true), 2 * sort + 2);
        }
        says("there are ten");
        for (int i = 5; i <= 10; i++) {
            due("one more", mill.grave(0, 0, true), i);
        }
        due("an eleventh", mill.grave(0, 0, true), NONE);
        due("how many", mill.count(11), 10);
        in("Promise 38");
        noMill("NONE: no MILL", (some, lad) -> some.dug());
    }

    private void oddsOfOne() {
        in("Promise 39");
        noSuchOne("NONE: no such one", (mill, lad) -> mill.odds(lad, 1), NONE);
        notLiving("it does not LIVE", (mill, lad) -> mill.odds(lad, 0), NONE);
        says("out of bounds");
        due("below", Mill.of("l;l").odds(0, -1), NONE);
        due("above", Mill.of("l;l").odds(0, 31), NONE);
        due("far above", Mill.of("l;l").odds(0, Integer.MAX_VALUE), NONE);
        due("the least", Mill.of("l;l").odds(0, 0), 1000000000);
        due("the most", Mill.of("l;l").odds(0, 30), 1);
    }

    private void othersOfAll() {
        in("Promise 40");
        noMill("NONE: no MILL", (mill, lad) -> mill.ablest());
        in("Promise 42");
        noMill("NONE: no MILL", (mill, lad) -> mill.order());
        in("Promise 45");
        noMill("NONE: no MILL", (mill, lad) -> mill.oldest());
    }

    private void othersOfOne() {
        in("Promise 41");
        noSuchOne("NONE: no such one", BlackMill::hides, NONE);
        notLiving("it does not LIVE", BlackMill::hides, NONE);
        in("Promise 43");
        says("NONE: it would be CHOSEN all the same");
        due("one old by art", Mill.of("lk2;l").safe(0), NONE);
        due("spies", Mill.of("lk3;lk3").safe(0), NONE);
        due("the other of them", Mill.of("lk3;lk3").safe(1), 10);
        BlackMill mill = Mill.of("l;l");
        mill.leave(0);
        due("the last one", mill.safe(1), NONE);
        noSuchOne("no such one", BlackMill::safe, NONE);
        notLiving("it does not LIVE", BlackMill::safe, NONE);
        in("Promise 44");
        noSuchOne("NONE: no such one", BlackMill::friends, NONE);
        due("one who left", halfEmpty().friends(0), 0);
        due("one who is buried", halfEmpty().friends(1), 0);
        in("Promise 46");
        noSuchOne("NONE: no such one", BlackMill::learns, NONE);
        notLiving("it does not LIVE", BlackMill::learns, NONE);
    }

    private void count() {
        in("Promise 49");
        says("4 the LAW that holds (NONE)");
        BlackMill mill = Mill.of("l;l", "y:1");
        due("the first", mill.count(4), 0);
        mill.law(NONE);
        due("none", mill.count(4), NONE);
        says("12 how long the LOG is");
        due("none yet", mill.count(12), 0);
        mill.years(60);
        due("60", mill.count(12), 60);
        mill.years(1);
        due("no more", mill.count(12), 60);
        says("13 ACTS that can be UNDONE");
        due("no more than 40", mill.count(13), 40);
        mill.undo();
        due("39", mill.count(13), 39);
        says("HIDDEN for others");
        due("below", mill.count(-1), HIDDEN);
        due("above", mill.count(14), HIDDEN);
        due("far above", mill.count(Integer.MAX_VALUE), HIDDEN);
    }
}
