/** Boundary cases of the texts: the first part of the Terms, and promises 1 to 9. */
final class BoundsOfTexts extends Bounds {
    private static final String EIGHT = "l;l;l;l;l;l;l;l";

    BoundsOfTexts(Doc doc) {
        super(doc);
    }

    void run() {
        in("What it is");
        calls();
        in("Terms 1");
        clauses();
        itemsOfAll();
        itemsOfTheMaster();
        itemsOfLads();
        itemsOfWays();
        laws();
        nests();
        numbers();
        worths();
        blanks();
        faultsAtTheLength();
        faultsAtAByte();
        aNewObject();
        feed();
        end();
        faultAndText();
        masterAndLads();
        waysAndLaws();
    }

    private void mill(String text, int fault) {
        due("fault of the mill «" + text + "»", Mill.fault(0, text), fault);
    }

    private void law(String text, int fault) {
        due("fault of the law «" + text + "»", Mill.fault(1, text), fault);
    }

    private void learns(String law, int want) {
        due("learnt by «" + law + "»", Mill.of("la30s4k2o50;l;l", law).learns(0), want);
    }

    private void calls() {
        says("at most 512 calls after it has been made");
        BlackMill mill = Mill.fed("l;l");
        mill.text(0);
        int calls = 2;
        for (; calls < 511; calls++) {
            mill.show(0, calls % 10);
        }
        due("the 512th call", mill.hides(0), 10);
    }

    // ---- mills ----

    private void clauses() {
        says("s (the MASTER; one at most)");
        mill("l;l", NONE);
        mill("l;s;l", NONE);
        mill("l;s;l;s", 6);
        says("l (a LAD; 2 .. 8)");
        mill("l", 1);
        mill("l;l", NONE);
        mill(EIGHT, NONE);
        mill(EIGHT + ";l", 16);
        due("two", Mill.of("l;l").count(0), 2);
        due("eight", Mill.of(EIGHT).count(0), 8);
        says("w (a WAY; none to 9)");
        due("none", Mill.of("l;l").count(1), 0);
        due("nine", Mill.of("l;l" + ";w".repeat(9)).count(1), 9);
        mill("l;l" + ";w".repeat(10), 22);
        says("in any order");
        BlackMill mill = Mill.of("wb5;la11;sp9;wb4;la12");
        due("the master", mill.master(0), 9);
        due("the first lad", Mill.lad(mill, 0, 0), 11);
        due("the second lad", Mill.lad(mill, 1, 0), 12);
        due("the first way", mill.way(0, 1), 5);
        due("the second way", mill.way(1, 1), 4);
    }

    private void itemsOfAll() {
        says("then ITEMS, none or more");
        mill("s;l;w;l", NONE);
        mill("sy1h2l3p4;lo10f1k2s3a4;wh1b2a3;la4s3k2f0o10", NONE);
        says("a letter, each once at most in a CLAUSE");
        mill("la20;la20", NONE);
        mill("la20a20;l", 4);
        mill("sp1p1;l;l", 3);
        mill("wh1a2h1;l;l", 5);
        says("a number (one or two digits)");
        mill("la;l", 2);
        due("one digit", told("la7;l", 'l', 0), 7);
        due("two digits", told("la17;l", 'l', 0), 17);
        due("two digits, 0 ahead", told("la07;l", 'l', 0), 7);
        mill("la007;l", 4);
    }

    private static long told(String text, char clause, int what) {
        BlackMill mill = Mill.of(text);
        return clause == 's' ? mill.master(what) : clause == 'l' ? Mill.lad(mill, 0, what) : mill.way(0, what);
    }

    /** An item of the first clause; its number stands behind the head. Beyond its bounds its last digit is wrong. */
    private void item(String head, String tail, int what, int least, int most) {
        char clause = head.charAt(0);
        for (int value : new int[] {least, most}) {
            mill(head + value + tail, NONE);
            due("told by " + head + value + tail, told(head + value + tail, clause, what), value);
        }
        for (int value : new int[] {least - 1, most + 1}) {
            if (value >= 0) {
                mill(head + value + tail, (head + value).length() - 1);
            }
        }
        if (least > 0 && least <= 10) {
            mill(head + "0" + (least - 1) + tail, head.length() + 1);
        }
    }

    private void itemsOfTheMaster() {
        says("p POWER (1 .. 99; 40 without)");
        item("sp", ";l;l", 0, 1, 99);
        due("without", told("s;l;l", 's', 0), 40);
        due("without a master's clause", Mill.of("l;l").master(0), 40);
        says("l LESSON (1 .. 9; 2)");
        item("sl", ";l;l", 1, 1, 9);
        due("without", Mill.of("l;l").master(1), 2);
        says("h HOURS till midnight (1 .. 20; 6)");
        item("sh", ";l;l", 2, 1, 20);
        due("without", Mill.of("l;l").master(2), 6);
        says("y by how many a YEAR makes old (1 .. 9; 3)");
        item("sy", ";l;l", 3, 1, 9);
        due("without", Mill.of("l;l").master(3), 3);
    }

    private void itemsOfLads() {
        says("a ART (0 .. 60; 10)");
        item("ls0a", ";l", 0, 0, 60);
        due("without", told("l;l", 'l', 0), 10);
        says("s how much is SHOWN (0 .. 60; 5)");
        item("la60s", ";l", 1, 0, 60);
        due("without", told("l;l", 'l', 1), 5);
        says("k KIND (0 plain, 1 a FOOL, 2 OLD by art, 3 a SPY; 0)");
        item("lk", ";l", 2, 0, 3);
        due("without", told("l;l", 'l', 2), 0);
        int[] fears = {9, 4, 19, -1};
        for (int kind = 0; kind <= 3; kind++) {
            due("fear of kind " + kind, told("ls9k" + kind + ";l", 'l', 7), fears[kind]);
        }
        says("f FRIEND (0 .. 8; 8: none; 8)");
        due("the first", Mill.lad(Mill.of("l;lf0"), 1, 3), 0);
        due("the last", told("lf7;l;l;l;l;l;l;l", 'l', 3), 7);
        due("none", told("lf8;l", 'l', 3), NONE);
        due("without", told("l;l", 'l', 3), NONE);
        mill("lf9;l", 2);
        says("o AGE (10 .. 60; 14)");
        item("lo", ";l", 4, 10, 60);
        due("without", told("l;l", 'l', 4), 14);
    }

    private void itemsOfWays() {
        says("a, b its PLACES (0 .. 5, 0 the MILL; a 0, b 1)");
        item("wb3a", ";l;l", 0, 0, 5);
        item("wa3b", ";l;l", 1, 0, 5);
        due("a without", told("w;l;l", 'w', 0), 0);
        due("b without", told("w;l;l", 'w', 1), 1);
        due("0 the mill", Mill.of("wa4b3;wa4b0;l;l").flight(3), 4);
        says("h HOURS (1 .. 9; 2)");
        item("wh", ";l;l", 2, 1, 9);
        due("without", told("w;l;l", 'w', 2), 2);
    }

    // ---- laws ----

    private void laws() {
        says("LAWS (4 at most)");
        BlackMill mill = new BlackMill();
        for (int law = 0; law < 4; law++) {
            due("a law", Mill.tell(mill, 1, "y:1"), law);
        }
        due("a fifth one", Mill.tell(mill, 1, "y:1"), NONE);
        due("four", mill.count(2), 4);
        says("CLAUSES with ; between, one at least");
        law("", 0);
        law(" ", 1);
        law(";y:1", 0);
        law("y:1", NONE);
        law("y:1;y:2", NONE);
        law("y:1;;y:2", 4);
        says("perhaps CONDITION ?");
        law("y:a=1?2", NONE);
        law("y:2", NONE);
        law("y:a=1", 5);
        law("y:?2", 2);
        law("y:a=1?2?3", 7);
        law("y:a=1?s=2", 7);
        says("a number (1 to 4 digits)");
        law("y:", 2);
        law("y:0", NONE);
        learns("y:7", 7);
        for (int number = 7; number <= 9999; number++) {
            learns("y:" + number + "-" + (number - 7), 7);
        }
        learns("y:0007", 7);
        law("y:00007", 6);
        says("(A CLAUSE that goes on with ! or ( behind its : has a CONDITION.)");
        law("y:!a=1", 6);
        law("y:!a", 4);
        law("y:!2", 4);
        law("y:(a=1)", 7);
        law("y:(a=1)+1", 7);
        law("y:(a)", 4);
        law("y:(a)=1?2", 4);
        law("y:!a=1?2", NONE);
        law("y:(a=1)?2", NONE);
    }

    private void nests() {
        says("At most six of ( [ ! within one another.");
        law("y:((((((a=1))))))?2", NONE);
        law("y:[[[[[[a]]]]]]", NONE);
        law("y:!!!!!!a=1?2", NONE);
        law("y:a=1?[[[[[[a]]]]]]", NONE);
        law("y:a=[[[[[[1]]]]]]?2", NONE);
        law("y:(!(!([a]=1)))?2", NONE);
        law("y:!(!(!(a=1)&!!s=2))?2", NONE);
        law("y:(!(!(!a=1)))?2", NONE);
        law("y:[[[[[[1]]]]]]+[[[[[[2]]]]]]*[[[[[[3]]]]]]", NONE);
        law("y:((((((a=1))))))|!!!!!!a=1&((((((a=1))))))?2", NONE);
        law("y:!a=1&[[[[[[1]]]]]]=1?2", NONE);
        says("a seventh of ( [ ! at it");
        law("y:(((((((a=1)))))))?2", 8);
        law("y:[[[[[[[a]]]]]]]", 8);
        law("y:!!!!!!!a=1?2", 8);
        law("y:a=1?[[[[[[[a]]]]]]]", 12);
        law("y:a=[[[[[[[1]]]]]]]?2", 10);
        law("y:(!(!([[a]]=1)))?2", 8);
        law("y:(!(!(!(a=1))))?2", 8);
        law("y:!(!(!(a=1)&!!!s=2))?2", 15);
        law("y:!!!!!!a=[1]?2", 10);
        law("y:!!!!!!(a=1)?2", 8);
        law("y:((((((a=1))))))&(((((((a=1)))))))?2", 24);
        law("y:1;y:2;y:[[[[[[[3]]]]]]]", 16);
    }

    // 999 times 1001 is 999,999: one less than the bound tells it from all others.
    private void numbers() {
        says("Behind each sign numbers are within -1,000,000 .. 1,000,000");
        learns("y:1000*1000+1000-999*1001", 1);
        learns("y:[0-1000*1000]+[0-1000]+999*1001+3", 2);
        learns("y:1000*1000-[0-1000]-999*1001", 1);
        learns("y:0-1000*1000-1000+999*1001+3", 2);
        learns("y:1001*1000-999*1001", 1);
        learns("y:[0-1001]*1000+999*1001+3", 2);
        learns("y:1000*1000*[1000*1000]-999*1001", 1);
        learns("y:[0-1000*1000]*[1000*1000]+999*1001+3", 2);
        learns("y:[0-1000*1000]*[0-1000*1000]-999*1001", 1);
        learns("y:1001*1000/1000-995", 5);
        learns("y:1001*1000=1000*1000?5", 5);
        learns("y:999*1001=1000*1000?5", 0);
        says("/ cuts towards 0");
        learns("y:7/2", 3);
        learns("y:[0-7]/2+5", 2);
        learns("y:7/[0-2]+5", 2);
        learns("y:[0-7]/[0-2]", 3);
        learns("y:[0-1]/2+5", 5);
        says("by 0 gives 0");
        learns("y:7/0+5", 5);
        learns("y:0/0+5", 5);
        learns("y:[0-7]/[2-2]+5", 5);
    }

    private void worths() {
        says("the first CLAUSE whose CONDITION holds (or has none), 0 without.");
        learns("y:a=30?1;y:a=30?2;y:3", 1);
        learns("y:a=31?1;y:a=30?2;y:3", 2);
        learns("y:a=31?1;y:a=31?2;y:3", 3);
        learns("y:4;y:a=30?1", 4);
        learns("y:a=31?1;y:a=31?2", 0);
        learns("y:a<30?7", 0);
        learns("y:a<31?7", 7);
        learns("y:a>30?7", 0);
        learns("y:a>29?7", 7);
        learns("y:a=29|a=31?7;y:3", 3);
        learns("y:a=29|a=30?7;y:3", 7);
        learns("y:a=30&a=31?7;y:3", 3);
        learns("y:!a=30?7;y:3", 3);
    }

    // ---- faults ----

    private void blanks() {
        says("Blanks (32) may stand between all signs of both, not within numbers.");
        mill("  s p 1 l 2 h 3 y 4 ; l a 20 s 5 k 1 f 1 o 14 ; l ; w a 0 b 1 h 2  ", NONE);
        mill("la2 0;l", 4);
        mill("la20 0;l", 5);
        mill("l\ta20;l", 1);
        law("  y : ! ( [ a + 10 ] > 2 & s < 3 | k = 1 ) ? 12 * n / 3 - o ; y : y  ", NONE);
        law("y:1 2", 4);
        law("y:1\u00a0", 3);
        BlackMill mill = Mill.of(" l a 20 s 6 ; l ", " y : 1 + 2 ");
        due("art told with blanks", Mill.lad(mill, 0, 0), 20);
        due("worth told with blanks", mill.learns(0), 3);
    }

    /** Where a text ends too early its length is the fault; at these lengths it is whole. */
    private void ends(int sort, String text, int... wholes) {
        for (int n = 0; n <= text.length(); n++) {
            int want = n;
            for (int whole : wholes) {
                want = whole == n ? NONE : want;
            }
            String begun = text.substring(0, n);
            due("fault of «" + begun + "» as " + sort, Mill.fault(sort, begun), want);
        }
    }

    private void faultsAtTheLength() {
        says("the length, if it ends too early");
        ends(0, "sp30h7;la20s1;lf0;wa1b2h3", 15, 17, 19, 23, 25);
        ends(1, "y:!(a=[1]|s>22)&k<3?n*2;y:o", 21, 23, 27);
        mill("l; ", 3);
        law("y:1 + ", 6);
        says("with fewer than two LADS");
        mill("l", 1);
        mill("s;w", 3);
        mill("s;l;w ", 6);
        mill("l;x", 2);
        says("with more SHOWN than ART");
        mill("la9s9;l", NONE);
        mill("la9s10;l", 8);
        mill("la4;l", 5);
        mill("la5;l", NONE);
        mill("ls10;l", NONE);
        mill("l;ls11", 6);
        mill("la4;l;x", 6);
        says("a FRIEND that is not told or oneself");
        mill("lf1;l", NONE);
        mill("lf2;l", 5);
        mill("lf2;l;l", NONE);
        mill("lf0;l", 5);
        mill("l;lf1", 5);
        mill("l;lf1;w;", 8);
        mill("lf7;l;l;l;l;l;l", 15);
        mill("l;l;l;l;l;l;l;lf7", 17);
        says("a WAY of a PLACE with itself");
        mill("wa1;l;l", 7);
        mill("wb0;l;l", 7);
        mill("l;l;wa5b5", 9);
        mill("l;l;wa1b0", NONE);
        mill("wb0;l;l;l9", 9);
    }

    private void faultsAtAByte() {
        says("a number out of bounds is wrong at its last digit");
        mill("la61x;l", 3);
        mill("lk4x;l", 2);
        mill("lo09;l", 3);
        mill("lo9;l", 2);
        mill("sl0;l;l", 2);
        mill("wa6b6;l;l", 2);
        says("a third digit (a fifth one in a LAW) itself, whatever stands ahead of it");
        mill("la100;l", 4);
        mill("la610;l", 4);
        mill("la000;l", 4);
        mill("lk999;l", 4);
        mill("sp1000;l;l", 4);
        law("y:12345", 6);
        law("y:00000", 6);
        law("y:123456", 6);
        law("y:a+1234*00000", 13);
        says("a letter that was there");
        mill("la20s5a20;l", 6);
        mill("sl1p1h1y1l1;l;l", 9);
        mill("wa0b1h1b1;l;l", 7);
        says("a second s");
        mill("s;s;l;l", 2);
        mill("l;sp3; s;l", 7);
        says("a ninth l");
        mill("s;" + EIGHT + ";w; lx", 21);
        says("a tenth w");
        mill("w;w;w;w;w;w;w;w;w;l;l;wx", 22);
    }

    // ---- promises 1 to 9 ----

    private void aNewObject() {
        in("Promise 1");
        says("No MILL.");
        BlackMill mill = new BlackMill();
        int[] counts = {0, 0, 0, 0, NONE, 0, 0, 0, 0, 5, 0, 0, 0, 0};
        for (int what = 0; what < counts.length; what++) {
            due("count " + what, mill.count(what), counts[what]);
        }
        due("refused", refused(mill), 0);
        due("chosen", mill.chosen(), NONE);
        due("the tape", mill.fault(0), 0);
    }

    private void feed() {
        in("Promise 2");
        says("of each number the highest first");
        BlackMill mill = new BlackMill();
        due("five numbers", mill.feed(0x6C3B6C61, 0x31314040, 0, 0, 0), 8);
        due("the seventh byte", mill.fault(0), 6);
        says("bytes of 0 are left out");
        due("all are 0", mill.feed(0, 0, 0, 0, 0), 8);
        due("one in each number", mill.feed(0x20, 0x2000, 0x200000, 0x20000000, 0x80), 13);
        mill.end(6);
        due("between others", mill.feed(0x73000032, 0, 0, 0, 0), 8);
        mill.text(0);
        due("what they tell", Mill.lad(mill, 1, 1), 2);
        says("NONE: more than 240");
        mill = new BlackMill();
        for (int i = 1; i <= 11; i++) {
            mill.feed(0x20202020, 0x20202020, 0x20202020, 0x20202020, 0x20202020);
        }
        mill.feed(0x20202020, 0x20202020, 0x20202020, 0x20202020, 0x202020);
        due("two more than 239", mill.feed(0, 0, 0x2020, 0, 0), NONE);
        due("none of them came", mill.count(3), 239);
        for (int i = 0; i < 5; i++) {
            int[] words = new int[5];
            words[i] = 0x01000080;
            due("two in number " + i, mill.feed(words[0], words[1], words[2], words[3], words[4]), NONE);
        }
        due("one more than 239", mill.feed(0, 0, 0, 0, 0xFF), 240);
        due("one more than 240", mill.feed(0x20, 0, 0, 0, 0), NONE);
        due("no more than 240", mill.feed(0, 0, 0, 0, 0), 240);
    }

    private void end() {
        in("Promise 3");
        says("False: n");
        BlackMill mill = Mill.fed("l;lx");
        due("below", mill.end(-1), false);
        due("above", mill.end(5), false);
        due("far above", mill.end(Integer.MAX_VALUE), false);
        due("it stays", mill.count(3), 4);
        due("all", mill.end(4), true);
        due("but one", mill.end(3), true);
        due("what is left", mill.fault(0), NONE);
        due("none", mill.end(0), true);
        due("none of none", mill.end(0), true);
        due("one of none", mill.end(1), false);
    }

    private void faultAndText() {
        in("Promise 4");
        says("NONE: none");
        mill("l;l", NONE);
        law("y:1", NONE);
        BlackMill again = Mill.fed("s;l;l;ls11;wa1");
        due("a faulty text", again.fault(0), 14);
        again.end(5);
        due("the part of it that is not", again.fault(0), NONE);
        due("once more", again.fault(0), NONE);
        says("-2: no such sort");
        due("below", Mill.fault(-1, "l;l"), -2);
        due("above", Mill.fault(2, "l;l"), -2);

        in("Promise 5");
        says("(empty then; if refused it stays)");
        BlackMill mill = Mill.fed("l;l;x");
        due("refused", mill.text(0), NONE);
        due("it stays", mill.count(3), 5);
        mill.end(3);
        due("a mill", mill.text(0), 2);
        due("empty", mill.count(3), 0);
        anotherMill();
        says("NONE: a FAULT");
        due("none told", new BlackMill().text(0), NONE);
        due("a law is no mill", Mill.fed("y:1").text(0), NONE);
        due("a mill is no law", Mill.fed("l;l").text(1), NONE);
        says("no such sort");
        due("below", Mill.fed("l;l").text(-1), NONE);
        due("above", Mill.fed("l;l").text(2), NONE);
        says("there are four LAWS");
        for (int law = 0; law < 4; law++) {
            Mill.tell(mill, 1, "y:1");
        }
        Mill.feed(mill, "y:1");
        due("a fifth one", mill.text(1), NONE);
        due("it stays", mill.count(3), 3);
        mill.end(0);
        Mill.feed(mill, "l;l");
        due("a mill still can be told", mill.text(0), 2);
    }

    private void anotherMill() {
        says("YEAR 0; all that was of another one, OUT and GRAVES, too, is gone but LAWS, which holds, BOLD, STATUS");
        BlackMill mill = Mill.of("lk2;la20f2;lf1;w;s", "y:4");
        mill.bold(7);
        mill.show(9, 0);
        mill.years(1);
        mill.warn(2);
        mill.out(1, true);
        mill.grave(0, 20, true);
        mill.image();
        Mill.tell(mill, 0, "l;l");
        int[] counts = {2, 0, 1, 0, 0, 0, 3, 20, 0, 7, 0, 0, 0, 0};
        for (int what = 0; what < counts.length; what++) {
            due("count " + what, mill.count(what), counts[what]);
        }
        due("status", mill.status(0), 1);
        due("back", mill.back(), NONE);
        due("undo", mill.undo(), NONE);
        due("log", mill.log(0, 0), HIDDEN);
        due("learns", mill.learns(0), 4);
        due("no friend", Mill.lad(mill, 1, 3), NONE);
        due("each can be a spy", mill.spies(1, NONE), 2);
        due("each can have dug", mill.dug(), 3);
    }

    private void masterAndLads() {
        in("Promise 6");
        says("NONE: no MILL");
        due("no mill", new BlackMill().master(0), NONE);
        says("no such what");
        due("below", Mill.of("l;l").master(-1), NONE);
        due("the last", Mill.of("l;l").master(3), 3);
        due("above", Mill.of("l;l").master(4), NONE);

        in("Promise 7");
        says("3 FRIEND (NONE)");
        BlackMill mill = Mill.of("lf1;l");
        due("a friend", Mill.lad(mill, 0, 3), 1);
        due("none", Mill.lad(mill, 1, 3), NONE);
        says("5 how it is (0 LIVES, 1 BURIED, 2 LEFT)");
        mill = Mill.of("lf1;l;l");
        mill.years(1);
        mill.leave(1);
        due("buried", Mill.lad(mill, 0, 5), 1);
        due("left", Mill.lad(mill, 1, 5), 2);
        due("lives", Mill.lad(mill, 2, 5), 0);
        says("6 whether WARNED (1, 0)");
        mill = Mill.of("lf1;l");
        mill.warn(0);
        due("not warned", Mill.lad(mill, 0, 6), 0);
        due("warned", Mill.lad(mill, 1, 6), 1);
        says("NoSuchElementException: no such ones");
        due("lad below", Mill.lad(mill, -1, 0), Check.THROWS);
        due("lad above", Mill.lad(mill, 2, 0), Check.THROWS);
        due("what below", Mill.lad(mill, 0, -1), Check.THROWS);
        due("what above", Mill.lad(mill, 0, 9), Check.THROWS);
        due("no mill", Mill.lad(new BlackMill(), 0, 0), Check.THROWS);
        due("the last ones", Mill.lad(mill, 1, 8), 32);
    }

    private void waysAndLaws() {
        in("Promise 8");
        says("NONE: no such ones");
        BlackMill mill = Mill.of("l;l;w;wh9");
        due("way below", mill.way(-1, 0), NONE);
        due("way above", mill.way(2, 0), NONE);
        due("what below", mill.way(1, -1), NONE);
        due("what above", mill.way(0, 3), NONE);
        due("the last ones", mill.way(1, 2), 9);
        due("no mill", new BlackMill().way(0, 0), NONE);

        in("Promise 9");
        says("(NONE: none)");
        Mill.tell(mill, 1, "y:7");
        Mill.tell(mill, 1, "y:8");
        due("the last", mill.law(1), true);
        due("it holds", mill.learns(0), 8);
        due("none", mill.law(NONE), true);
        due("none holds", mill.learns(0), 2);
        due("none twice", mill.law(NONE), true);
        says("False: no such one");
        mill.law(0);
        due("below", mill.law(-2), false);
        due("above", mill.law(2), false);
        due("the same holds", mill.count(4), 0);
        due("no law told", new BlackMill().law(0), false);
        due("no law told, none", new BlackMill().law(NONE), true);
    }
}
