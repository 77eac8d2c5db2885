/** Promises 1 to 9: a new object, the tape, faults, texts and what they tell. */
public final class TextTest {
    private static final Check CHECK = new Check("TextTest");

    public static void main(String[] args) {
        aNewObject();
        tape();
        millFaults();
        lawFaults();
        texts();
        master();
        lads();
        ways();
        laws();
        worth();
        CHECK.end();
    }

    private static void due(String what, long got, long want) {
        CHECK.due(what, got, want);
    }

    private static void aNewObject() {
        BlackMill mill = new BlackMill();
        int[] counts = {0, 0, 0, 0, -1, 0, 0, 0, 0, 5, 0, 0, 0, 0};
        for (int what = 0; what < counts.length; what++) {
            due("P1 count " + what, mill.count(what), counts[what]);
        }
        due("P1 master", mill.master(0), -1);
        due("P1 lad", Mill.lad(mill, 0, 0), Check.THROWS);
        due("P1 way", mill.way(0, 0), -1);
        due("P1 chosen", mill.chosen(), -1);
        due("P1 order", mill.order(), -1);
        due("P1 fault", mill.fault(0), 0);
        due("P1 undo", mill.undo(), -1);
        due("P1 log", mill.log(0, 0), BlackMill.HIDDEN);
        for (int what = 0; what < 5; what++) {
            due("P1 status " + what, mill.status(what), 0);
        }
    }

    private static void tape() {
        BlackMill mill = new BlackMill();
        due("P2 no bytes", mill.feed(0, 0, 0, 0, 0), 0);
        due("P2 highest first", mill.feed('l' << 24 | ';' << 16 | 'l' << 8 | 'x', 0, 0, 0, 0), 4);
        due("P2 highest first, fault", mill.fault(0), 3);
        due("P3 end", mill.end(3) ? 1 : 0, 1);
        due("P3 end, fault", mill.fault(0), -1);
        due("P2 zeros left out", mill.feed('a', '1' << 16, 0, '2' << 8, 's' << 24 | '2'), 8);
        due("P2 zeros left out, text", mill.text(0), 2);
        due("P2 zeros left out, art", Mill.lad(mill, 1, 0), 12);
        due("P2 zeros left out, shown", Mill.lad(mill, 1, 1), 2);

        mill = new BlackMill();
        for (int i = 1; i <= 12; i++) {
            due("P2 twenty more", mill.feed(0x20202020, 0x20202020, 0x20202020, 0x20202020, 0x20202020), 20 * i);
        }
        due("P2 beyond 240", mill.feed(0, 0, 0, 0, 1), -1);
        due("P2 nothing more at 240", mill.feed(0, 0, 0, 0, 0), 240);
        due("P3 end at 239", mill.end(239) ? 1 : 0, 1);
        due("P2 two more at 239", mill.feed(0x01000001, 0, 0, 0, 0), -1);
        due("P2 refused, nothing came", mill.count(3), 239);
        due("P2 negative numbers", mill.feed(0, 0, 0, 0, 0xFF000000), 240);
        due("P2 a byte of 255", mill.fault(0), 239);

        mill.end(237);
        for (int i = 0; i < 5; i++) {
            int[] words = new int[5];
            words[i] = 0x20202020;
            due("P2 four more than 240 in number " + i, mill.feed(words[0], words[1], words[2], words[3], words[4]), -1);
        }
        due("P2 one in each of three", mill.feed(0, 32, 32, 32, 0), 240);

        due("P3 end 241", mill.end(241) ? 1 : 0, 0);
        due("P3 end -1", mill.end(-1) ? 1 : 0, 0);
        due("P3 end itself", mill.end(240) ? 1 : 0, 1);
        due("P3 end 0", mill.end(0) ? 1 : 0, 1);
        due("P3 bytes", mill.count(3), 0);
        due("P3 end 1 of none", mill.end(1) ? 1 : 0, 0);
    }

    private static void millFault(String text, int want) {
        due("P4 mill fault of «" + text + "»", Mill.fault(0, text), want);
    }

    private static void millFaults() {
        due("P4 no such sort", new BlackMill().fault(2), -2);
        due("P4 no such sort, below", new BlackMill().fault(-1), -2);
        BlackMill again = Mill.fed("s;l;l");
        due("P4 asked once", again.fault(0), -1);
        due("P4 asked again", again.fault(0), -1);
        millFault("", 0);
        millFault("  ", 2);
        millFault("l;l", -1);
        millFault("l", 1);
        millFault("s", 1);
        millFault("l;l;", 4);
        millFault("l;;l", 2);
        millFault(";l;l", 0);
        millFault("x;l", 0);
        millFault("L;l", 0);
        millFault("l;l\u00e9", 3);
        millFault("l;l\t", 3);
        millFault(" l ; l ", -1);
        millFault("l a 5 s 5;l", -1);
        millFault("l a1 5;l", 5);
        millFault("la;l", 2);
        millFault("la", 2);
        millFault("la5a5", 3);
        millFault("la5q5", 3);
        millFault("la60s60k3f1o60;l", -1);
        millFault("la0s0;l", -1);
        millFault("la00s00;l", -1);
        millFault("la61;l", 3);
        millFault("la99;l", 3);
        millFault("la990;l", 4);
        millFault("la001;l", 4);
        millFault("la600;l", 4);
        millFault("la60s61;l", 6);
        millFault("lk0;l", -1);
        millFault("lk3;l", -1);
        millFault("lk4;l", 2);
        millFault("lk04;l", 3);
        millFault("lo10;l", -1);
        millFault("lo9;l", 2);
        millFault("lo09;l", 3);
        millFault("lo61;l", 3);
        millFault("lf8;l", -1);
        millFault("lf9;l", 2);
        millFault("lf10;l", 3);
        millFault("lf0;l", 5);
        millFault("l;lf1", 5);
        millFault("lf2;l", 5);
        millFault("lf2;l;l", -1);
        millFault("lf7;l;l;l;l;l;l;l", -1);
        millFault("la4;l", 5);
        millFault("ls11;l", 6);
        millFault("la4;l;x", 6);
        millFault("la4;l;la5", 9);
        millFault("sp1l1h1y1;l;l", -1);
        millFault("sp99l9h20y9;l;l", -1);
        millFault("sp0;l;l", 2);
        millFault("sp00;l;l", 3);
        millFault("sp100;l;l", 4);
        millFault("sl0;l;l", 2);
        millFault("sl10;l;l", 3);
        millFault("sh0;l;l", 2);
        millFault("sh21;l;l", 3);
        millFault("sy0;l;l", 2);
        millFault("sy10;l;l", 3);
        millFault("sa1;l;l", 1);
        millFault("l;s;s;l", 4);
        millFault("w;l;l", -1);
        millFault("w;s;l;w;l", -1);
        millFault("wa5b1h9;l;l", -1);
        millFault("wa6;l;l", 2);
        millFault("wb6;l;l", 2);
        millFault("wh0;l;l", 2);
        millFault("wh10;l;l", 3);
        millFault("wk1;l;l", 1);
        millFault("wa1;l;l", 7);
        millFault("wb0;l;l", 7);
        millFault("wa3b3;l;l", 9);
        millFault("wa1b0;l;l", -1);
        millFault("l;l;l;l;l;l;l;l", -1);
        millFault("l;l;l;l;l;l;l;l;l", 16);
        millFault("l;l;w;w;w;w;w;w;w;w;w", -1);
        millFault("l;l;w;w;w;w;w;w;w;w;w;w", 22);
    }

    private static void lawFault(String text, int want) {
        due("P4 law fault of «" + text + "»", Mill.fault(1, text), want);
    }

    private static void lawFaults() {
        lawFault("", 0);
        lawFault(" ", 1);
        lawFault("y", 1);
        lawFault("y:", 2);
        lawFault("y1", 1);
        lawFault("a:1", 0);
        lawFault("y:1", -1);
        lawFault(" y : 1 ; y : a = 1 ? 2 ", -1);
        lawFault("y:1;", 4);
        lawFault("y:1;;", 4);
        lawFault("y:1;y:2", -1);
        lawFault("y:9999", -1);
        lawFault("y:12345", 6);
        lawFault("y:00001", 6);
        lawFault("y:12 34", 5);
        lawFault("y:1a", 3);
        lawFault("y:b", 2);
        lawFault("y:a+s*k/o-y+n", -1);
        lawFault("y:-1", 2);
        lawFault("y:1+", 4);
        lawFault("y:1+-1", 4);
        lawFault("y:1**1", 4);
        lawFault("y:a?1", 3);
        lawFault("y:a&s", 3);
        lawFault("y:a=", 4);
        lawFault("y:a=1", 5);
        lawFault("y:a=1;", 5);
        lawFault("y:a=1=", 5);
        lawFault("y:a<>", 4);
        lawFault("y:a=1?", 6);
        lawFault("y:a=1?s", -1);
        lawFault("y:a=1?s=1", 7);
        lawFault("y:a=1?!", 6);
        lawFault("y:a=1?s?1", 7);
        lawFault("y:a>1&s<2|k=3?n", -1);
        lawFault("y:a=1&s", 7);
        lawFault("y:a=1&s?1", 7);
        lawFault("y:a=1|", 6);
        lawFault("y:a=1||", 6);
        lawFault("y:!a=1?s", -1);
        lawFault("y:!a", 4);
        lawFault("y:!a?1", 4);
        lawFault("y:!!a=1?s", -1);
        lawFault("y:(a=1)?s", -1);
        lawFault("y:(a=1)", 7);
        lawFault("y:(a=1);", 7);
        lawFault("y:(a=1)+1", 7);
        lawFault("y:(a)", 4);
        lawFault("y:(a=1?", 6);
        lawFault("y:((a=1|!s=2)&k=0)?1", -1);
        lawFault("y:a=1&(s=2|!k=3)?y*o/n", -1);
        lawFault("y:a=(", 4);
        lawFault("y:a+(", 4);
        lawFault("y:[a]", -1);
        lawFault("y:[a", 4);
        lawFault("y:[a)", 4);
        lawFault("y:[a=1", 4);
        lawFault("y:[!", 3);
        lawFault("y:[]", 3);
        lawFault("y:[a+1]*[s-1]>3?[n]", -1);
        lawFault("y:[[[[[[1]]]]]]", -1);
        lawFault("y:[[[[[[[1]]]]]]]", 8);
        lawFault("y:!!!!!!a=1?1", -1);
        lawFault("y:!!!!!!!a=1?1", 8);
        lawFault("y:!!!!!!(a=1)?1", 8);
        lawFault("y:!!!!!!a=[1]?1", 10);
        lawFault("y:!!!!!a=[1]?1", -1);
        lawFault("y:((((((a=1))))))?1", -1);
        lawFault("y:(((((((a=1)))))))?1", 8);
        lawFault("y:(!(!(!a=1)))?1", -1);
        lawFault("y:(!(!([a]=1)))?[1]", -1);
        lawFault("y:(!(!([a]=[[1]])))?1", 12);
        lawFault("y:!a=[[[[[1]]]]]&[[[[[[1]]]]]]=1?2", -1);
        lawFault("y:!a=[[[[[[1]]]]]]?2", 10);
        lawFault("y:[1]+[[2]]*[3];y:[[[[[[4]]]]]]", -1);
    }

    private static void texts() {
        BlackMill mill = Mill.fed("l;l;x");
        due("P5 faulty", mill.text(0), -1);
        due("P5 refused, it stays", mill.count(3), 5);
        mill.end(3);
        due("P5 no such sort", mill.text(2), -1);
        due("P5 no such sort, below", mill.text(-1), -1);
        due("P5 no such sort, it stays", mill.count(3), 3);
        due("P5 a mill is no law", mill.text(1), -1);
        due("P5 a mill", mill.text(0), 2);
        due("P5 the tape is empty", mill.count(3), 0);
        for (int law = 0; law < 4; law++) {
            due("P5 a law", Mill.tell(mill, 1, "y:" + law), law);
            due("P5 the tape is empty behind a law", mill.count(3), 0);
        }
        due("P5 a fifth law", Mill.tell(mill, 1, "y:1"), -1);
        due("P5 a fifth law stays on the tape", mill.count(3), 3);
        due("P5 no law holds by being told", mill.count(4), -1);

        mill.law(2);
        mill.bold(7);
        mill.show(9, 0);
        mill.years(3);
        mill.image();
        mill.out(1, true);
        mill.grave(0, 20, true);
        mill.end(0);
        Mill.feed(mill, "l;lf0;lk3o60;w");
        due("P5 another mill", mill.text(0), 3);
        int[] counts = {3, 1, 4, 0, 2, 0, 7, 30, 0, 7, 0, 0, 0, 0};
        for (int what = 0; what < counts.length; what++) {
            due("P5 another mill, count " + what, mill.count(what), counts[what]);
        }
        due("P5 another mill, status", mill.status(0), 1);
        due("P5 another mill, no act", mill.undo(), -1);
        due("P5 another mill, no image", mill.back(), -1);
        due("P5 another mill, no log", mill.log(0, 0), BlackMill.HIDDEN);
        due("P5 another mill, all could be spies", mill.spies(1, -1), 3);
        due("P5 another mill, all could have dug", mill.dug(), 7);

        mill.warn(1);
        due("P5 warned", mill.count(8), 1);
        mill.leave(1);
        Mill.tell(mill, 0, "l;lf0;lk3o60;w");
        due("P5 nobody is warned in another mill", mill.count(8), 0);
        due("P5 all live in another mill", mill.count(6), 7);
        mill.years(2);
        Mill.feed(mill, "l;l;lf5");
        due("P5 a faulty mill", mill.text(0), -1);
        due("P5 a faulty mill changes none", mill.count(5), 2);
        due("P5 a faulty mill changes no lad", Mill.lad(mill, 1, 3), 0);
    }

    private static void master() {
        BlackMill mill = Mill.of("l;l");
        int[] usual = {40, 2, 6, 3};
        BlackMill told = Mill.of("l;sy9h20l8p77;l");
        int[] all = {77, 8, 20, 9};
        for (int what = 0; what < 4; what++) {
            due("P6 without " + what, mill.master(what), usual[what]);
            due("P6 told " + what, told.master(what), all[what]);
        }
        due("P6 below", mill.master(-1), -1);
        due("P6 above", mill.master(4), -1);
        Mill.tell(told, 0, "l;l");
        due("P6 without, behind another", told.master(0), 40);
    }

    private static void lads() {
        BlackMill mill = Mill.of("l;la60s59k2f0o60;ls7k1f1;la20s10k3f2o20");
        long[][] due = {
            {10, 5, 0, -1, 14, 0, 0, 5, 32}, {60, 59, 2, 0, 60, 0, 0, 69, 63},
            {10, 7, 1, 1, 14, 0, 0, 3, 56}, {20, 10, 3, 2, 20, 0, 0, -1, 31}};
        for (int lad = 0; lad < 4; lad++) {
            for (int what = 0; what < 9; what++) {
                due("P7 lad " + lad + " " + what, Mill.lad(mill, lad, what), due[lad][what]);
            }
        }
        due("P7 no such lad", Mill.lad(mill, 4, 0), Check.THROWS);
        due("P7 no such lad, below", Mill.lad(mill, -1, 0), Check.THROWS);
        due("P7 no such what", Mill.lad(mill, 0, 9), Check.THROWS);
        due("P7 no such what, below", Mill.lad(mill, 0, -1), Check.THROWS);
        due("P7 far off", Mill.lad(mill, Integer.MAX_VALUE, 0), Check.THROWS);

        mill.warn(1);
        mill.warn(2);
        mill.warn(3);
        due("P7 warned", Mill.lad(mill, 0, 6), 1);
        due("P7 fear of a warned one", Mill.lad(mill, 0, 7), 2);
        due("P7 fear of a warned old one", Mill.lad(mill, 1, 7), 39);
        due("P7 fear of a warned fool", Mill.lad(mill, 2, 7), 1);
        due("P7 not warned", Mill.lad(mill, 3, 6), 0);

        mill.leave(2);
        due("P7 left", Mill.lad(mill, 2, 5), 2);
        due("P7 signs without a friend who lives", Mill.lad(mill, 3, 8), 15);
        due("P7 signs, no friend's friend lives", Mill.lad(mill, 1, 8), 31);
        due("P7 signs of one who left", Mill.lad(mill, 2, 8), 56);
        mill.years(1);
        due("P7 buried", Mill.lad(mill, 1, 5), 1);
        due("P7 no more warned", Mill.lad(mill, 0, 6), 0);
        due("P7 fear of one who is buried", Mill.lad(mill, 1, 7), 69);
    }

    private static void ways() {
        BlackMill mill = Mill.of("l;w;l;wa5b3h9");
        int[][] due = {{0, 1, 2}, {5, 3, 9}};
        for (int way = 0; way < 2; way++) {
            for (int what = 0; what < 3; what++) {
                due("P8 way " + way + " " + what, mill.way(way, what), due[way][what]);
            }
        }
        due("P8 no such way", mill.way(2, 0), -1);
        due("P8 no such way, below", mill.way(-1, 0), -1);
        due("P8 no such what", mill.way(0, 3), -1);
        due("P8 no such what, below", mill.way(1, -1), -1);
        Mill.tell(mill, 0, "l;l");
        due("P8 gone with its mill", mill.way(0, 0), -1);
    }

    private static void laws() {
        BlackMill mill = Mill.of("l;l");
        due("P9 none", mill.law(-1) ? 1 : 0, 1);
        due("P9 no such law", mill.law(0) ? 1 : 0, 0);
        Mill.tell(mill, 1, "y:7");
        Mill.tell(mill, 1, "y:8");
        due("P9 not yet", mill.learns(0), 2);
        due("P9 one", mill.law(1) ? 1 : 0, 1);
        due("P9 it holds", mill.learns(0), 8);
        due("P9 another", mill.law(0) ? 1 : 0, 1);
        due("P9 the other holds", mill.learns(0), 7);
        due("P9 no such", mill.law(2) ? 1 : 0, 0);
        due("P9 no such, below", mill.law(-2) ? 1 : 0, 0);
        due("P9 refused changes none", mill.count(4), 0);
        due("P9 the same", mill.law(0) ? 1 : 0, 1);
        due("P9 none again", mill.law(-1) ? 1 : 0, 1);
        due("P9 none holds", mill.learns(0), 2);
        due("P9 counted", mill.count(4), -1);
    }

    private static void learns(String law, int want) {
        due("worth of «" + law + "»", Mill.of("la30s4k2o50;l;l", law).learns(0), want);
    }

    private static void worth() {
        learns("y:7", 7);
        learns("y:0-7", 0);
        learns("y:10", 9);
        learns("y:1+2*3", 7);
        learns("y:[1+2]*3", 9);
        learns("y:8-3-2", 3);
        learns("y:8-[3-2]", 7);
        learns("y:8/4/2", 1);
        learns("y:8/4*3", 6);
        learns("y:7/2", 3);
        learns("y:[0-7]/2+5", 2);
        learns("y:7/[0-2]+5", 2);
        learns("y:5/0+4", 4);
        learns("y:9999*9999-1000*1000+4", 4);
        learns("y:9999*1000/9999-95", 5);
        learns("y:0-1000*1000-9999+1000*1000+7", 7);
        learns("y:1000*1000+9999-1000*1000+3", 3);
        learns("y:[0-1000]*1001+1000*1000+6", 6);
        learns("y:a/10", 3);
        learns("y:s", 4);
        learns("y:k", 2);
        learns("y:o/10", 5);
        learns("y:y", 0);
        learns("y:n", 3);
        learns("y:a=30?1;y:2", 1);
        learns("y:a=31?1;y:2", 2);
        learns("y:a>29?1;y:2", 1);
        learns("y:a>30?1;y:2", 2);
        learns("y:a<31?1;y:2", 1);
        learns("y:a<30?1;y:2", 2);
        learns("y:a=31?1;y:s=4?5;y:7", 5);
        learns("y:a=31?1;y:s=5?5", 0);
        learns("y:1=1|1=1&1=2?5;y:2", 5);
        learns("y:[1]=1&1=2|1=1?5;y:2", 5);
        learns("y:1=1&(1=2|1=1)&1=2?5;y:2", 2);
        learns("y:(1=1|1=1)&1=2?5;y:2", 2);
        learns("y:!1=2&1=2?5;y:2", 2);
        learns("y:!(1=2&1=2)?5;y:2", 5);
        learns("y:!!1=2?5;y:2", 2);
        learns("y:!1=1|!1=2?5;y:2", 5);
        learns("y:1+1=4-2?5;y:2", 5);
        learns("y:[[[[[[6]]]]]]", 6);
        learns("y:!(!([a]=[30]))?3;y:4", 3);
        learns("y:!(!(!(a=30)))?3;y:4", 4);
    }
}
