/** Each promise by itself: ordinary inputs, the edges that the document names, and wrong inputs. */
public final class PromiseTest {
    private static final int BAD = -1, NO = -2, FULL = -3, NONE = -4;
    private static final int LEAST = Integer.MIN_VALUE, MOST = Integer.MAX_VALUE;
    private static final Checks CHECKS = new Checks();

    public static void main(String[] args) {
        newObject();
        write();
        wipe();
        fault();
        lay();
        guest();
        shame();
        presses();
        pressesOfKinds();
        is();
        when();
        whenInPairs();
        wasted();
        frees();
        madeUp();
        bell();
        best();
        given();
        cost();
        rests();
        price();
        meant();
        since();
        leave();
        drawn();
        sign();
        say();
        takeBack();
        keep();
        back();
        count();
        anyNumbers();
        CHECKS.end();
    }

    private static void due(String call, long got, long want) {
        CHECKS.due(call, got, want);
    }

    private static NobodyFirst laid(String text) {
        return Checks.laid(text);
    }

    private static void newObject() {
        NobodyFirst x = new NobodyFirst();
        int[] counts = {2, 2, 0, 0, 0, 0, 0, 0, 0};
        for (int what = 0; what < counts.length; what++) due("1 new: count " + what, x.count(what), counts[what]);
        int[] first = {0, 200, 30, 0}, second = {1, 210, 40, 0};
        for (int what = 0; what < 4; what++) {
            due("1 new: guest 0," + what, x.guest(0, what), first[what]);
            due("1 new: guest 1," + what, x.guest(1, what), second[what]);
        }
        due("1 new: draws by 15", x.shame(1, 231), 25);
        due("1 new: hall of 20", x.when(1, 1), 255);
        due("1 new: end at 240", x.wasted(-1), 15);
        due("1 new: fault", x.fault(), NONE);
        due("1 new: lay", x.lay(), NO);
        due("1 new: takeBack", x.takeBack(), NO);
        due("1 new: back", x.back(), NO);
    }

    private static void write() {
        NobodyFirst x = new NobodyFirst();
        for (int n : new int[] {0, -1, 9, LEAST, MOST}) due("2 write n " + n, x.write(n, 0), BAD);
        due("2 write of three", x.write(3, 0x62313bL), 3);
        due("2 highest first", x.fault(), NONE);
        due("2 higher bytes do not count", x.write(3, 0x7777777777_62313bL), 6);
        due("2 higher bytes do not count", x.fault(), NONE);
        due("2 one byte", x.write(1, -1L), 7);
        due("2 a byte above 127", x.fault(), 6);
        x.wipe();
        for (int k = 1; k <= 49; k++) due("2 write of eight", x.write(8, 0x62313b_62323b_6233L), 8 * k);
        due("2 to 396", x.write(4, 0), 396);
        due("2 full by one", x.write(5, 0), FULL);
        due("2 bad first", x.write(9, 0), BAD);
        due("2 nothing changed", x.count(8), 396);
        due("2 to 400", x.write(4, 0), 400);
        due("2 full", x.write(1, 0), FULL);
        due("2 still 400", x.count(8), 400);
    }

    private static void wipe() {
        NobodyFirst x = laid("g2,100,5,1;");
        due("3 wipe", x.wipe(), 11);
        due("3 wipe again", x.wipe(), 0);
        due("3 the evening stays laid", x.guest(0, 0), 2);
        due("3 empty", x.count(8), 0);
        due("3 no fault", x.fault(), NONE);
        due("3 write begins anew", x.write(3, 0x62313bL), 3);
        due("3 nothing old is read", x.fault(), NONE);
    }

    private static void fault() {
        String[] right = {
            "", "g0,0,0,0;", "g3,359,199,5;", "s0,1;s359,99;", "w0;w359;", "l0,0;l99,60;", "b0;b359;", "c1,0;c99,999;",
            "u1,0,0;u3,99,99;", "g0,1,1,1;y0,0,0;y0,359,1;", "g000,001,001,001;", "b007;", "s1,1;s1,1;s1,1;s1,1;s1,1;s1,1;",
            "w1;w1;w1;w1;", "c1,1;c1,1;c1,1;", "l1,1;l2,2;l3,3;l4,4;l5,5;l6,6;l7,7;l8,8;l9,9;",
            "u1,1,1;u1,2,2;u1,3,3;u1,4,4;", "b1;b2;b3;b4;b5;b6;b7;b8;b9;"
        };
        for (String text : right) due("4 fault of " + text, Checks.faultOf(text), NONE);
        String[] wrong = {
            "g4,0,0,0;", "g0,360,0,0;", "g0,0,200,0;", "g0,0,0,6;", "g0,0,0;", "g0,0,0,0,0;", "g;", "g", ";", ",", "0", "1;",
            "s360,1;", "s0,0;", "s0,100;", "s0;", "s0,1,1;", "w360;", "w0,0;", "w;", "l100,0;", "l0,61;", "l0;", "l0,0,0;",
            "b360;", "b;", "b0,0;", "c0,0;", "c100,0;", "c1;", "c1,1,1;", "u0,0,0;", "u4,0,0;", "u1,100,0;", "u1,0,100;", "u1,0;",
            "y0,0,0;", "G0,0,0,0;", "x1;", " b1;", "b 1;", "b1 ;", "b-1;", "b+1;", "b0001;", "b1", "b1,", "b,1;", "b1,;", "s1,,1;",
            "c1,1000;", "a;", "gs1,1;", "\u0000", "\u00ff", "g,0,0,0;", "g0,,0,0;", "g0,0,,0;", "g0,0,0,;", "s,1;", "s1,;",
            "l,0;", "l0,;", "c,1;", "c1,;", "u,1,1;", "u1,,1;", "u1,1,;"
        };
        String[] heads = {"", "b5;", "g0,0,0,0;b12;l1,2;"};
        for (String head : heads) {
            for (String item : wrong) {
                if (head.startsWith("g") && item.equals("y0,0,0;")) continue;
                due("4 fault of " + head + item, Checks.faultOf(head + item), head.length());
                due("4 fault of " + head + item + "b1;", Checks.faultOf(head + item + "b1;"), head.length());
            }
        }
        String eight = "g0,0,0,0;".repeat(8);
        due("4 eight guests", Checks.faultOf(eight), NONE);
        due("4 nine guests", Checks.faultOf(eight + "g0,0,0,0;"), 72);
        due("4 seven signs", Checks.faultOf("s1,1;".repeat(7)), 30);
        due("4 five words", Checks.faultOf("w1;".repeat(5)), 12);
        due("4 four offers", Checks.faultOf("c1,1;".repeat(4)), 15);
        due("4 six looks", Checks.faultOf("g0,1,1,1;" + "y0,1,1;".repeat(6)), NONE);
        due("4 seven looks", Checks.faultOf("g0,1,1,1;" + "y0,1,1;".repeat(7)), 51);
        due("4 a look at one told later", Checks.faultOf("g0,1,1,1;y1,1,1;g0,1,1,1;"), 9);
        due("4 a look at the last told", Checks.faultOf("g0,1,1,1;g0,1,1,1;y1,1,1;"), NONE);
        due("4 a look of 2", Checks.faultOf("g0,1,1,1;y0,1,2;"), 9);
        for (String look : new String[] {"y,1,1;", "y0,,1;", "y0,1,;", "y0,1;", "y0,1,1,1;"}) {
            due("4 fault of " + look, Checks.faultOf("g0,1,1,1;" + look), 9);
        }
        due("4 a look at the eighth", Checks.faultOf(eight + "y7,1,1;"), NONE);
        due("4 a look at a ninth", Checks.faultOf(eight + "y8,1,1;"), 72);
        NobodyFirst stale = new NobodyFirst();
        Checks.writeText(stale, "b12;b3;");
        stale.wipe();
        Checks.writeText(stale, "b12");
        due("4 what was wiped does not end an item", stale.fault(), 0);
        stale.wipe();
        Checks.writeText(stale, "b1");
        due("4 nor go on with a number", stale.fault(), 0);
        due("4 the most bytes", Checks.faultOf("b012;".repeat(80)), NONE);
        due("4 the most bytes, cut off behind a number", Checks.faultOf("b012;".repeat(79) + "b1;b1"), 398);
        due("4 the most bytes, cut off behind a letter", Checks.faultOf("b012;".repeat(79) + "b12;b"), 399);
        due("4 a look at 360", Checks.faultOf("g0,1,1,1;y0,360,1;"), 9);
        due("4 the first of two faults", Checks.faultOf("b1;b999;b998;"), 3);
        due("4 a fault inside a fault", Checks.faultOf("b1;g0,0,0b1;"), 3);
    }

    private static void lay() {
        NobodyFirst x = new NobodyFirst();
        due("5 empty", x.lay(), NO);
        Checks.writeText(x, "s1,1;w1;b9;");
        due("5 without a guest", x.lay(), NO);
        due("5 nothing changed", x.count(2), 0);
        Checks.writeText(x, "g0,1,2,3;g5");
        x.sign(10, 10);
        x.keep();
        due("5 with a fault", x.lay(), NO);
        due("5 the old one stays", x.guest(1, 1), 210);
        due("5 its sign stays", x.count(2), 1);
        due("5 what can be taken back stays", x.count(6), 1);
        due("5 what is kept stays", x.count(7), 1);
        x.wipe();
        Checks.writeText(x, "g0,1,2,3;s1,1;s2,2;w3;");
        due("5 laid", x.lay(), 1);
        due("5 nothing to take back", x.takeBack(), NO);
        due("5 nothing kept", x.back(), NO);
        due("5 signs of the text alone", x.count(2), 2);
        due("5 words of the text", x.count(3), 1);
        due("5 the text stays", x.count(8), 22);
        x.sign(5, 5);
        due("5 laid again", x.lay(), 1);
        due("5 the added sign is gone", x.count(2), 2);
        x.wipe();
        Checks.writeText(x, "l1,1;l50,2;b1;b30;u1,1,1;u1,2,1;g0,20,0,0;");
        x.lay();
        due("5 the last hall counts", x.when(0, 1), 22);
        due("5 the last end counts", x.wasted(-1), 8);
        due("5 the last custom counts", x.meant(1, 1), 3);
        x.wipe();
        Checks.writeText(x, "g0,20,0,0;");
        x.lay();
        due("5 a hall of 20 without", x.when(0, 1), 40);
        due("5 an end of 240 without", x.wasted(-1), 200);
        due("5 no custom without", x.meant(1, 1), NONE);
        x.lay();
        due("5 nor when it is laid again", x.meant(1, 1), NONE);
        due("5 nor an old hall", x.when(0, 1), 40);
        due("5 nor an old end", x.wasted(-1), 200);
        NobodyFirst y = laid("g0,10,50,0;g1,100,0,3;g2,0,20,0;");
        due("5 draws by 15 without", y.shame(0, 21), 35);
    }

    private static void guest() {
        NobodyFirst x = laid("g3,359,199,5;g1,2,3,4;");
        int[] first = {3, 359, 199, 5}, second = {1, 2, 3, 4};
        for (int what = 0; what < 4; what++) {
            due("6 guest", x.guest(0, what), first[what]);
            due("6 guest", x.guest(1, what), second[what]);
        }
        for (int i : new int[] {-1, 2, LEAST, MOST}) due("6 guest " + i, x.guest(i, 0), BAD);
        for (int what : new int[] {-1, 4, LEAST, MOST}) due("6 what " + what, x.guest(0, what), BAD);
    }

    private static void shame() {
        NobodyFirst x = laid("g0,300,60,0;g1,300,60,1;g2,300,60,2;s50,20;s80,99;w60;w100;w100;l7,5;");
        int[][] due = {
            {0, 0, 60}, {0, 49, 60}, {0, 50, 40}, {0, 79, 40}, {0, 80, 0}, {1, 49, 60}, {1, 50, 40}, {1, 59, 40}, {1, 60, 50},
            {1, 79, 50}, {1, 80, 10}, {1, 99, 10}, {1, 100, 30}, {2, 80, 60}, {2, 300, 60}, {2, 301, 53}, {0, 719, 0}, {1, 719, 30}
        };
        for (int[] d : due) due("7 shame " + d[0] + "," + d[1], x.shame(d[0], d[1]), d[2]);
        due("7 each who stood draws, himself too", x.shame(2, 331), 46);
        NobodyFirst y = laid("g0,100,0,0;g0,100,0,0;g1,300,90,2;l20,5;");
        due("7 a pair of two draws twice", y.shame(2, 101), 50);
        due("7 not in its own minute", y.shame(2, 100), 90);
        for (int i : new int[] {-1, 3, LEAST, MOST}) due("7 shame of " + i, x.shame(i, 0), BAD);
        for (int t : new int[] {-1, 720, LEAST, MOST}) due("7 shame at " + t, x.shame(0, t), BAD);
    }

    private static void presses() {
        NobodyFirst x = laid("g0,100,30,0;g0,300,50,0;g1,100,30,1;g1,359,199,2;w120;w135;s131,5;");
        int[][] due = {
            {0, 0, 0}, {0, 129, 0}, {0, 130, 1}, {0, 131, 1}, {0, 719, 1}, {1, 344, 0}, {1, 345, 1},
            {2, 134, 0}, {2, 135, 0}, {2, 136, 0}, {2, 144, 0}, {2, 145, 1}, {3, 527, 0}, {3, 528, 1}
        };
        for (int[] d : due) due("8 presses " + d[0] + "," + d[1], x.presses(d[0], d[1]), d[2]);
        NobodyFirst y = laid("g0,100,10,1;g0,359,199,2;w115;");
        due("8 a polite one presses", y.presses(0, 110), 1);
        due("8 until a word", y.presses(0, 114), 1);
        due("8 and no more", y.presses(0, 115), 0);
        due("8 but later", y.presses(0, 120), 1);
        NobodyFirst z = laid("g0,0,0,4;g1,0,0,4;");
        due("8 a stayer need not press to stand at 719", z.presses(1, 719), 0);
        due("8 and stands", z.is(1, 719), 1);
        for (int i : new int[] {-1, 4, LEAST, MOST}) due("8 presses of " + i, x.presses(i, 0), BAD);
        for (int t : new int[] {-1, 720, LEAST, MOST}) due("8 presses at " + t, x.presses(0, t), BAD);
    }

    private static void pressesOfKinds() {
        NobodyFirst bus = laid("g0,100,150,3;");
        due("8 a bus ahead", bus.presses(0, 99), 0);
        due("8 a bus", bus.presses(0, 100), 1);
        NobodyFirst stayer = laid("g0,10,5,4;g0,10,5,0;g1,50,0,0;g2,70,0,0;l0,0;");
        due("8 a stayer while others sit", stayer.presses(0, 70), 0);
        due("8 a stayer when all others stood", stayer.presses(0, 71), 1);
        due("8 his partner", stayer.presses(1, 15), 1);
        NobodyFirst late = laid("g0,100,20,4;g1,50,0,0;l0,0;");
        due("8 a stayer has shame too", late.presses(0, 119), 0);
        due("8 a stayer past his shame", late.presses(0, 120), 1);
        NobodyFirst alone = laid("g0,10,5,4;");
        due("8 a stayer without others, ahead", alone.presses(0, 14), 0);
        due("8 a stayer without others", alone.presses(0, 15), 1);
        NobodyFirst sly = laid("g0,100,150,5;g1,130,0,0;l0,0;");
        due("8 a sly one, while all sit", sly.presses(0, 130), 0);
        due("8 a sly one, when one stood", sly.presses(0, 131), 1);
        NobodyFirst early = laid("g0,100,150,5;g1,30,0,0;l0,0;");
        due("8 a sly one ahead of his minute", early.presses(0, 99), 0);
        due("8 a sly one at his minute", early.presses(0, 100), 1);
        NobodyFirst only = laid("g0,100,150,5;l0,0;");
        due("8 a sly one, of whom nobody is ahead", only.presses(0, 249), 0);
        due("8 a sly one as said", only.presses(0, 250), 1);
    }

    private static void is() {
        NobodyFirst x = laid("g0,100,0,0;l0,10;");
        int[][] due = {{0, 0}, {99, 0}, {100, 1}, {109, 1}, {110, 2}, {999, 2}};
        for (int[] d : due) due("9 is at " + d[0], x.is(0, d[0]), d[1]);
        NobodyFirst y = laid("g0,100,0,0;l0,0;");
        due("9 no hall, ahead", y.is(0, 99), 0);
        due("9 no hall", y.is(0, 100), 2);
        NobodyFirst z = laid("g0,359,199,1;w0;w0;w0;w0;g1,359,199,4;g2,359,199,4;l0,60;");
        due("9 the last hall, two stayers sit", z.is(1, 718), 0);
        due("9 the last hall", z.is(1, 719), 1);
        due("9 the last hall goes on", z.is(1, 778), 1);
        due("9 the last hall ends", z.is(1, 779), 2);
        due("9 the first is gone long since", z.is(0, 658), 2);
        for (int i : new int[] {-1, 1, LEAST, MOST}) due("9 is of " + i, x.is(i, 0), BAD);
        for (int t : new int[] {-1, 1000, LEAST, MOST}) due("9 is at " + t, x.is(0, t), BAD);
    }

    private static void when() {
        // The hall of 10: one who stands 9 or 10 minutes later holds it up, one who stands 11 later does not.
        int[][] halls = {{109, 119}, {110, 120}, {111, 110}};
        for (int[] d : halls) {
            NobodyFirst x = laid("g0,100,0,0;g1," + d[0] + ",0,0;l0,10;");
            due("10 first stands", x.when(0, 0), 100);
            due("10 second stands", x.when(1, 0), d[0]);
            due("10 first goes, second at " + d[0], x.when(0, 1), d[1]);
            due("10 second goes", x.when(1, 1), d[0] + 10);
        }
        NobodyFirst chain = laid("g0,100,0,0;g1,108,0,0;g2,116,0,0;g3,127,0,0;l0,10;");
        int[] goes = {126, 126, 126, 137};
        for (int i = 0; i < 4; i++) due("10 chain " + i, chain.when(i, 1), goes[i]);
        NobodyFirst backwards = laid("g0,116,0,0;g1,108,0,0;g2,100,0,0;l0,10;");
        for (int i = 0; i < 3; i++) due("10 chain told backwards " + i, backwards.when(i, 1), 126);
        NobodyFirst none = laid("g0,100,0,0;g1,101,0,0;l0,0;");
        due("10 no hall", none.when(0, 1), 100);
        due("10 no hall", none.when(1, 1), 101);
        NobodyFirst draws = laid("g0,100,0,0;g1,50,99,0;l99,0;");
        due("10 one who stood draws the minute after", draws.when(1, 0), 101);
        NobodyFirst once = laid("g0,100,50,0;g1,100,50,0;l50,0;");
        due("10 both at once", once.when(0, 0) * 1000 + once.when(1, 0), 150150);
        NobodyFirst end = laid("g0,0,0,4;g1,0,0,4;l0,60;");
        due("10 at 719 each stands", end.when(0, 0), 719);
        due("10 and goes", end.when(1, 1), 779);
        NobodyFirst signs = laid("g0,100,80,0;s120,30;s140,60;l0,0;");
        due("10 a sign makes him stand", signs.when(0, 0), 140);
        NobodyFirst words = laid("g0,100,20,1;w119;w125;l0,0;s127,99;s134,1;");
        due("10 words hold him", words.when(0, 0), 127);
        for (int i : new int[] {-1, 2, LEAST, MOST}) due("10 when of " + i, none.when(i, 0), BAD);
        for (int what : new int[] {-1, 2, LEAST, MOST}) due("10 what " + what, none.when(0, what), BAD);
    }

    private static void whenInPairs() {
        NobodyFirst two = laid("g0,100,0,0;g0,150,10,0;l0,0;");
        due("10 a pair waits for both", two.when(0, 0), 160);
        NobodyFirst three = laid("g2,100,0,0;g2,150,10,0;g2,200,5,0;l0,0;");
        due("10 a pair of three waits for all", three.when(0, 0), 205);
        NobodyFirst bus = laid("g0,100,0,3;g0,350,199,0;g1,200,0,0;l0,0;");
        due("10 a bus takes all with it", bus.when(1, 0), 100);
        due("10 not those of other pairs", bus.when(2, 0), 200);
        NobodyFirst late = laid("g0,300,0,3;g0,100,0,0;l0,0;");
        due("10 a bus that is late holds up", late.when(1, 0), 300);
        NobodyFirst buses = laid("g0,300,0,3;g0,200,0,3;l0,0;");
        due("10 the first of two buses", buses.when(0, 0), 200);
        NobodyFirst apart = laid("g0,100,10,1;w111;g0,90,50,0;s140,1;l0,0;");
        due("10 both must press in one minute", apart.when(0, 0), 140);
        NobodyFirst missed = laid("g0,100,10,1;w115;w115;w115;w115;g0,100,20,0;l0,0;");
        due("10 a word parts them", missed.when(0, 0), 150);
    }

    private static void wasted() {
        NobodyFirst x = laid("g0,100,40,0;g0,150,0,3;g1,300,0,0;l0,10;b330;");
        due("11 later than he would", x.wasted(0), 60);
        due("11 of a bus", x.wasted(1), 10);
        due("11 of the last", x.wasted(2), 10);
        due("11 of the host, earlier", x.wasted(-1), 20);
        due("11 of all", x.wasted(-2), 100);
        NobodyFirst early = laid("g0,100,0,3;g0,300,0,0;l0,10;b100;");
        due("11 earlier than he would", early.wasted(1), 190);
        due("11 of the host, later", early.wasted(-1), 10);
        due("11 of all", early.wasted(-2), 210);
        for (int i : new int[] {-3, 3, LEAST, MOST}) due("11 wasted " + i, x.wasted(i), BAD);
    }

    private static void frees() {
        NobodyFirst x = laid("g0,100,50,0;l0,0;b100;");
        due("12 at his minute", x.frees(0, 100), 100100);
        due("12 ahead of it", x.frees(0, 90), 100080);
        due("12 at 0", x.frees(0, 0), 99900);
        due("12 as it is", x.frees(0, 150), 100000);
        due("12 a bus that is later than he would stand", x.frees(0, 200), 99900);
        due("12 the last minute", x.frees(0, 359), 99582);
        NobodyFirst kinds = laid("g0,100,199,4;g0,120,199,2;g1,140,199,5;l0,0;b140;");
        // As it is all sit to 339, 340 and 719; a bus at 120 takes the first two, the sly one goes at 140.
        due("12 as it is", kinds.wasted(-2), kinds.bell(719));
        due("12 a stayer made a bus frees all", kinds.frees(0, 120), 100000 + kinds.wasted(-2) - 20);
        due("12 nothing is changed by it", kinds.guest(0, 3), 4);
        for (int i : new int[] {-1, 1, LEAST, MOST}) due("12 frees of " + i, x.frees(i, 0), BAD);
        for (int m : new int[] {-1, 360, LEAST, MOST}) due("12 frees at " + m, x.frees(0, m), BAD);
    }

    private static void madeUp() {
        NobodyFirst x = laid("g0,105,50,0;l0,0;b105;");
        due("13 the lowest of two", x.madeUp(0, 0), 100);
        due("13 what it frees", x.madeUp(0, 1), 100090);
        NobodyFirst none = laid("g0,100,0,0;l0,0;b100;");
        due("13 none", none.madeUp(0, 0), NONE);
        due("13 none", none.madeUp(0, 1), NONE);
        due("13 bad ahead of none", none.madeUp(0, 2), BAD);
        NobodyFirst last = laid("g0,350,9,0;l0,0;b350;");
        due("13 the last that is tried", last.madeUp(0, 0), 350);
        NobodyFirst zero = laid("g0,0,9,0;l0,0;b0;");
        due("13 the first that is tried", zero.madeUp(0, 0), 0);
        for (int i : new int[] {-1, 1, LEAST, MOST}) due("13 madeUp of " + i, x.madeUp(i, 0), BAD);
        for (int what : new int[] {-1, 2, LEAST, MOST}) due("13 what " + what, x.madeUp(0, what), BAD);
    }

    private static void bell() {
        NobodyFirst x = laid("g0,100,50,0;g1,200,0,0;l0,10;b300;");
        due("14 as it is", x.wasted(-2), 60 + 10 + 90);
        due("14 ahead of all", x.bell(0), 90 + 190 + 290);
        due("14 behind the first", x.bell(180), 60 + 10 + 110);
        due("14 when the second stands just so", x.bell(200), 160);
        due("14 behind all", x.bell(201), 160);
        due("14 the last minute", x.bell(719), 160);
        NobodyFirst held = laid("g0,100,0,0;g1,300,0,0;l0,10;b100;");
        due("14 those in the hall are held up", held.bell(105), 15 + 185 + 15);
        for (int m : new int[] {-1, 720, LEAST, MOST}) due("14 bell at " + m, x.bell(m), BAD);
    }

    private static void best() {
        NobodyFirst x = laid("g0,105,100,0;l0,0;b105;");
        due("15 the lowest of two", x.best(0), 100);
        due("15 all", x.best(1), 10);
        NobodyFirst as = laid("g0,355,0,0;l0,0;b355;");
        due("15 the last that is tried", as.best(0), 350);
        due("15 all, though none would be better", as.best(1), 10);
        NobodyFirst first = laid("g0,0,50,0;l0,0;b0;");
        due("15 at 0", first.best(0), 0);
        due("15 at 0", first.best(1), 0);
        NobodyFirst zero = laid("g0,0,0,0;l0,0;b0;");
        due("15 the first", zero.best(0), 0);
        due("15 nothing", zero.best(1), 0);
        for (int what : new int[] {-1, 2, LEAST, MOST}) due("15 what " + what, x.best(what), BAD);
    }

    private static void given() {
        NobodyFirst none = laid("g0,100,40,0;l0,0;b100;");
        due("16 no sign can be given", none.given(-1), 80);
        due("16 no sign can be given", none.given(0), BAD);
        NobodyFirst x = laid("g0,100,40,0;l0,0;b100;c30,5;");
        due("16 the sum", x.given(-1), 25);
        due("16 the first of the minutes", x.given(0), 0);
        due("16 no second one", x.given(1), BAD);
        NobodyFirst dear = laid("g0,100,40,0;l0,0;b100;c30,60;");
        due("16 not, when it is all the same", dear.given(0), NONE);
        due("16 the sum then", dear.given(-1), 80);
        NobodyFirst two = laid("g0,100,40,0;l0,0;b100;c20,1;c20,1;");
        due("16 both", two.given(-1), 2);
        due("16 both", two.given(0), 0);
        due("16 both", two.given(1), 0);
        NobodyFirst either = laid("g0,100,40,0;l0,0;b100;c40,1;c40,1;c40,1;");
        due("16 one of three", either.given(-1), 1);
        due("16 not the first", either.given(0), NONE);
        due("16 not the second", either.given(1), NONE);
        due("16 the third", either.given(2), 0);
        // Given at once the first stands at 130 and holds up the second (70 in all), at 150 he does not.
        NobodyFirst when = laid("g0,130,50,0;g1,120,0,0;l0,10;b180;c90,0;");
        due("16 as it is", when.wasted(-2), 80);
        due("16 a minute that is not the first", when.given(0), 150);
        due("16 its sum", when.given(-1), 30 + 10 + 20);
        // To 325 the second would stand at 325 and hold up the first to 335; at 330 the first is gone by then.
        NobodyFirst last = laid("g0,319,0,0;g1,325,40,0;l0,10;b359;c40,0;c40,1;");
        due("16 the last minute", last.given(0), 330);
        due("16 and its sum", last.given(-1), 329 - 319 + 340 - 325 + 359 - 340);
        due("16 the second is not given", last.given(1), NONE);
        // At 360 it would be less (56): then the second would not hold up the three.
        NobodyFirst over = laid("g0,349,0,0;g0,349,0,0;g0,349,0,0;g1,355,40,0;l0,10;b359;c40,0;");
        due("16 not at 360", over.given(0), 0);
        due("16 not at 360", over.given(-1), 3 * 16 + 10 + 6);
        x.sign(0, 10);
        due("16 with one more sign", x.given(-1), 5);
        x.takeBack();
        due("16 when it is taken back", x.given(-1), 25);
        x.keep();
        x.sign(0, 40);
        due("16 with a sign that does it all", x.given(-1), 0);
        due("16 with a sign that does it all", x.given(0), NONE);
        x.back();
        due("16 as kept", x.given(-1), 25);
        NobodyFirst polite = laid("g0,100,40,1;l0,0;b100;c40,5;");
        due("16 of a polite one", polite.given(-1), 5);
        polite.say(50);
        due("16 behind a word", polite.given(-1), 25);
        NobodyFirst deaf = laid("g0,100,40,2;l0,0;b100;c40,0;");
        due("16 of a deaf one", deaf.given(0), NONE);
        NobodyFirst later = laid("g0,100,100,0;g1,100,50,0;l0,0;b210;c50,0;");
        due("16 least of all", later.given(-1), 50 + 0 + 60);
        due("16 the earliest that does it", later.given(0), 0);
        for (int i : new int[] {-2, 1, LEAST, MOST}) due("16 given " + i, x.given(i), BAD);
    }

    private static void cost() {
        NobodyFirst x = laid("g3,240,70,0;g1,200,5,0;g1,180,90,1;g3,210,20,2;");
        // Pairs 1 (W 200, S 90) and 3 (W 240, S 70) are the 0th and the 1st.
        due("17 first alone", x.cost(0, 10), 20 + 90);
        due("17 behind", x.cost(1, 10), 30);
        due("17 both at once", x.cost(0, 11), 10);
        due("17 both at the first", x.cost(0, 0), 20);
        due("17 both at the first", x.cost(1, 0), 60);
        due("17 both at once", x.cost(1, 11), 30);
        due("17 the other first", x.cost(0, 5), 130);
        due("17 the other first alone", x.cost(1, 5), 60 + 70);
        due("17 figures of no pair do not count", x.cost(0, 99910), 110);
        due("17 the most", x.cost(0, 99955), 130);
        due("17 a slot of 6", x.cost(0, 6), BAD);
        due("17 a slot of 6 of the other", x.cost(0, 60), BAD);
        due("17 a slot of 9", x.cost(1, 9), BAD);
        for (int i : new int[] {-1, 2, LEAST, MOST}) due("17 cost of " + i, x.cost(i, 0), BAD);
        for (int f : new int[] {-1, 100000, LEAST, MOST}) due("17 cost by " + f, x.cost(0, f), BAD);
        NobodyFirst alone = laid("g2,300,9,0;");
        due("17 one pair alone is first", alone.cost(0, 4), 9);
        NobodyFirst zero = laid("g0,0,0,0;");
        due("17 of nothing", zero.cost(0, 0), 180);
        NobodyFirst four = laid("g0,180,1,0;g1,210,2,0;g2,240,3,0;g3,270,4,0;");
        int[] costs = {90, 30, 30, 94};
        for (int i = 0; i < 4; i++) due("17 of four " + i, four.cost(i, 123), costs[i]);
    }

    private static void rests() {
        NobodyFirst alone = laid("g2,300,9,0;");
        due("18 one pair rests at its slot", alone.rests(-1), 1);
        due("18 one pair rests at its slot", alone.rests(0), 4);
        NobodyFirst between = laid("g0,195,0,0;");
        due("18 two rests", between.rests(-1), 2);
        due("18 the first of them", between.rests(0), 0);
        // Of two who would both go at 180, each of much shame, all slots alike are rests but those
        // from which one would be first and gladly so.
        NobodyFirst shy = laid("g0,180,199,0;g1,180,199,0;");
        due("18 all alike", shy.rests(-1), 6);
        due("18 the first", shy.rests(0) * 10 + shy.rests(1), 0);
        NobodyFirst bold = laid("g0,180,0,0;g1,240,0,0;");
        due("18 each at its own", bold.rests(-1), 1);
        due("18 each at its own", bold.rests(0) * 10 + bold.rests(1), 2);
        // No game is without a rest: let each take its nearest slot; one that is first alone either is
        // so gladly or rests beside the second. So 'none' can't be asked for here, nor of the price.
        NobodyFirst waits = laid("g0,180,50,0;g1,210,0,0;");
        due("18 the first waits for the second", waits.rests(0) * 10 + waits.rests(1), 11);
        NobodyFirst four = laid("g3,180,50,0;g2,210,0,0;g0,330,0,0;g1,300,0,0;");
        int[] slots = {5, 4, 1, 1};
        for (int i = 0; i < 4; i++) due("18 of four " + i, four.rests(i), slots[i]);
        due("18 of four", four.rests(-1), 1);
        due("18 no fifth", four.rests(4), BAD);
        for (int i : new int[] {-2, 1, LEAST, MOST}) due("18 rests " + i, alone.rests(i), BAD);
    }

    private static void price() {
        due("19 of two shy ones", laid("g0,180,199,0;g1,180,199,0;").price(), 0);
        due("19 of one", laid("g0,195,10,0;").price(), 0);
        due("19 of the first text", new NobodyFirst().price(), 0);
        NobodyFirst dear = laid("g0,180,60,0;g0,200,20,1;g1,150,90,2;g1,170,30,0;g2,240,10,4;g3,210,80,5;g2,90,120,1;");
        due("19 a rest that costs more than need be", dear.price(), 20);
    }

    private static void meant() {
        NobodyFirst x = laid("g0,1,1,1;u1,6,4;u2,0,7;u3,9,0;");
        int[][] due = {{1, 3, 5}, {2, 0, 1}, {3, 1, 1}};
        for (int[] d : due) {
            due("20 meant " + d[0], x.meant(d[0], 0), d[1]);
            due("20 meant " + d[0], x.meant(d[0], 1), d[2]);
        }
        NobodyFirst y = laid("g0,1,1,1;u2,99,98;u1,5,5;u1,0,0;");
        due("20 without", y.meant(3, 0), NONE);
        due("20 without", y.meant(3, 1), NONE);
        due("20 the last one of it", y.meant(1, 0), NONE);
        NobodyFirst ones = laid("g0,1,1,1;u1,1,0;u2,0,1;");
        due("20 one and none", ones.meant(1, 0) * 10 + ones.meant(1, 1), 11);
        due("20 none and one", ones.meant(2, 0) * 10 + ones.meant(2, 1), 1);
        due("20 in lowest terms", y.meant(2, 0) * 1000 + y.meant(2, 1), 99197);
        due("20 bad ahead of none", y.meant(3, 2), BAD);
        for (int n : new int[] {-1, 0, 4, LEAST, MOST}) due("20 meant " + n, x.meant(n, 0), BAD);
        for (int part : new int[] {-1, 2, LEAST, MOST}) due("20 part " + part, x.meant(1, part), BAD);
    }

    private static void since() {
        NobodyFirst x = laid("g0,1,1,1;g1,1,1,1;y0,30,1;y1,29,0;");
        // A yawn at 30: 0 and 30 weigh 3 each. None at 29: 0 weighs 7, the eleven others 10 each.
        int[][] due = {{0, 0, 1, 2}, {0, 1, 1, 2}, {0, 2, 0, 1}, {0, 11, 0, 1}, {1, 0, 7, 117}, {1, 1, 10, 117}, {1, 11, 10, 117}};
        for (int[] d : due) {
            due("21 since " + d[0] + "," + d[1], x.since(d[0], d[1], 0), d[2]);
            due("21 since " + d[0] + "," + d[1], x.since(d[0], d[1], 1), d[3]);
        }
        NobodyFirst many = laid("g0,1,1,1;y0,0,1;y0,0,1;y0,0,1;y0,359,0;y0,359,0;y0,359,0;");
        due("21 sure", many.since(0, 0, 0) * 10 + many.since(0, 0, 1), 11);
        due("21 never", many.since(0, 1, 0) * 10 + many.since(0, 1, 1), 1);
        NobodyFirst calm = laid("g0,1,1,1;y0,0,0;y0,0,0;y0,0,0;y0,0,0;y0,0,0;y0,0,0;");
        due("21 six looks", calm.since(0, 0, 0), 117649);
        due("21 six looks", calm.since(0, 0, 1), 117649 + 11 * 1000000);
        due("21 six looks, another", calm.since(0, 5, 0), 1000000);
        NobodyFirst none = laid("g0,1,1,1;");
        due("21 no look", none.since(0, 11, 0) * 100 + none.since(0, 11, 1), 112);
        for (int i : new int[] {-1, 2, LEAST, MOST}) due("21 since of " + i, x.since(i, 0, 0), BAD);
        for (int w : new int[] {-1, 12, LEAST, MOST}) due("21 since " + w, x.since(0, w, 0), BAD);
        for (int part : new int[] {-1, 2, LEAST, MOST}) due("21 part " + part, x.since(0, 0, part), BAD);
    }

    private static void leave() {
        NobodyFirst x = new NobodyFirst();
        int[][] five = {{NONE, 4, 3, 2, 1}, {1, 0, 4, NONE, 2}};
        for (int r = 0; r < 2; r++) {
            for (int i = 0; i < 5; i++) due("22 of five " + r + "," + i, x.leave(5, r, i), five[r][i]);
        }
        int[][] six = {{5, 4, 3, 2, 1, 0}, {1, 0, 4, 5, 2, 3}};
        for (int r = 0; r < 2; r++) {
            for (int i = 0; i < 6; i++) due("22 of six " + r + "," + i, x.leave(6, r, i), six[r][i]);
        }
        for (int n = 2; n <= 20; n++) eachOfEachOnce(n);
        for (int n : new int[] {-1, 0, 1, 21, LEAST, MOST}) due("22 n " + n, x.leave(n, 0, 0), BAD);
        for (int n = 2; n <= 20; n++) {
            int rounds = n % 2 == 0 ? n - 1 : n;
            for (int r : new int[] {-1, rounds, LEAST, MOST}) due("22 r " + r + " of " + n, x.leave(n, r, 0), BAD);
            for (int i : new int[] {-1, n, LEAST, MOST}) due("22 i " + i + " of " + n, x.leave(n, 0, i), BAD);
        }
    }

    private static void eachOfEachOnce(int n) {
        boolean[][] took = new boolean[n][n];
        int rounds = n % 2 == 0 ? n - 1 : n;
        for (int r = 0; r < rounds; r++) {
            // All rounds together would be more than the 512 calls of one object.
            NobodyFirst x = new NobodyFirst();
            for (int i = 0; i < n; i++) {
                int other = x.leave(n, r, i);
                if (other == NONE && n % 2 == 1) continue;
                boolean fits = other >= 0 && other < n && other != i && !took[i][other] && x.leave(n, r, other) == i;
                due("22 each of each once: " + n + "," + r + "," + i, fits ? 1 : 0, 1);
                if (fits) took[i][other] = true;
            }
        }
    }

    private static void drawn() {
        NobodyFirst none = new NobodyFirst();
        due("23 without signs", none.drawn(0, 0), 255);
        due("23 without signs", none.drawn(0, 1), 115);
        NobodyFirst x = laid("g0,100,50,0;g0,100,50,0;g1,0,0,0;l0,0;b150;s0,20;s0,30;");
        NobodyFirst deaf = laid("g0,100,50,2;l0,0;b150;s0,50;");
        for (int z = 0; z < 10000; z += z < 40 || z > 9900 ? 1 : 397) {
            int[] worth = {20, 30};
            int latest = 0;
            for (int i = 0; i < 2; i++) {
                int shame = 50;
                for (int k = 0; k < 2; k++) {
                    java.math.BigInteger sum = java.math.BigInteger.valueOf(7919L * z + 6151L * i + 3571L * k + 1);
                    int rest = sum.multiply(sum).mod(java.math.BigInteger.valueOf(65521)).intValue();
                    if (rest % 10 < 6) shame -= worth[k];
                }
                latest = Math.max(latest, 100 + shame);
            }
            due("23 drawn " + z, x.drawn(z, 0), latest);
            due("23 drawn " + z, x.drawn(z, 1), 2 * (latest - 100) + 150 - latest);
            due("23 a deaf one " + z, deaf.drawn(z, 0), 150);
        }
        due("23 nothing is changed by it", x.when(0, 0), 100);
        for (int z : new int[] {-1, 10000, LEAST, MOST}) due("23 drawn " + z, x.drawn(z, 0), BAD);
        for (int what : new int[] {-1, 2, LEAST, MOST}) due("23 what " + what, x.drawn(0, what), BAD);
    }

    private static void sign() {
        NobodyFirst x = laid("g0,100,90,0;l0,0;s0,10;");
        due("24 one more", x.sign(0, 20), 2);
        due("24 it counts", x.when(0, 0), 160);
        due("24 edges", x.sign(359, 99), 3);
        due("24 edges", x.sign(359, 1), 4);
        x.sign(1, 1);
        due("24 six", x.sign(1, 1), 6);
        due("24 full", x.sign(1, 1), FULL);
        due("24 bad ahead of full", x.sign(360, 1), BAD);
        due("24 nothing changed", x.count(2), 6);
        due("24 nothing changed", x.count(6), 5);
        NobodyFirst y = new NobodyFirst();
        for (int m : new int[] {-1, 360, LEAST, MOST}) due("24 at " + m, y.sign(m, 1), BAD);
        for (int v : new int[] {-1, 0, 100, LEAST, MOST}) due("24 worth " + v, y.sign(0, v), BAD);
        due("24 nothing changed", y.count(2) + y.count(6), 0);
    }

    private static void say() {
        NobodyFirst x = laid("g0,100,20,1;l0,0;w0;");
        due("25 one more", x.say(129), 2);
        due("25 it counts", x.when(0, 0), 140);
        due("25 edges", x.say(359), 3);
        due("25 four", x.say(0), 4);
        due("25 full", x.say(0), FULL);
        due("25 bad ahead of full", x.say(360), BAD);
        due("25 nothing changed", x.count(3) * 10 + x.count(6), 43);
        NobodyFirst y = new NobodyFirst();
        for (int m : new int[] {-1, 360, LEAST, MOST}) due("25 at " + m, y.say(m), BAD);
        due("25 nothing changed", y.count(3) + y.count(6), 0);
    }

    private static void takeBack() {
        NobodyFirst x = laid("g0,100,90,1;l0,0;");
        due("26 nothing", x.takeBack(), NO);
        for (int k = 0; k < 6; k++) x.sign(k, 1);
        due("26 six can be", x.count(6), 6);
        for (int k = 0; k < 4; k++) x.say(k);
        due("26 eight can be", x.count(6), 8);
        for (int k = 7; k >= 4; k--) due("26 words", x.takeBack(), k);
        due("26 no word is left", x.count(3), 0);
        for (int k = 3; k >= 0; k--) due("26 signs", x.takeBack(), k);
        due("26 no more", x.takeBack(), NO);
        due("26 the two oldest stay", x.count(2), 2);
        due("26 and count", x.shame(0, 50), 88);
        NobodyFirst mixed = new NobodyFirst();
        mixed.sign(0, 1);
        mixed.say(0);
        for (int k = 0; k < 5; k++) mixed.sign(0, 1);
        for (int k = 0; k < 3; k++) mixed.say(0);
        for (int k = 3; k > 0; k--) {
            mixed.takeBack();
            due("26 a word", mixed.count(2) * 10 + mixed.count(3), 60 + k);
        }
        for (int k = 5; k > 0; k--) {
            mixed.takeBack();
            due("26 a sign", mixed.count(2) * 10 + mixed.count(3), 10 * k + 1);
        }
        due("26 the two oldest can't be", mixed.takeBack(), NO);
        NobodyFirst nine = new NobodyFirst();
        nine.sign(0, 1);
        nine.say(0);
        for (int k = 0; k < 5; k++) nine.sign(0, 1);
        for (int k = 0; k < 2; k++) nine.say(0);
        for (int k = 0; k < 8; k++) nine.takeBack();
        due("26 of nine the oldest alone is left", nine.count(2) * 10 + nine.count(3), 10);
        NobodyFirst y = laid("g0,100,90,0;s0,10;s0,20;l0,0;");
        due("26 none told in the text", y.takeBack(), NO);
        y.sign(0, 30);
        y.say(0);
        y.sign(0, 5);
        due("26 all count", y.shame(0, 0), 25);
        due("26 the latest first", y.takeBack(), 2);
        due("26 the latest first", y.shame(0, 0), 30);
        due("26 then the word", y.takeBack(), 1);
        due("26 then the word", y.count(2) * 10 + y.count(3), 30);
        y.say(7);
        due("26 told anew", y.count(6), 2);
        y.takeBack();
        due("26 then the first", y.takeBack(), 0);
        due("26 as it was", y.shame(0, 0), 60);
        y.sign(0, 1);
        y.keep();
        due("26 keep leaves it", y.takeBack(), 0);
        due("26 refused ones are not taken back", y.sign(0, 0) + y.takeBack(), BAD + NO);
    }

    private static void keep() {
        NobodyFirst x = new NobodyFirst();
        due("27 one", x.keep(), 1);
        due("27 two", x.keep(), 2);
        due("27 full", x.keep(), FULL);
        due("27 nothing changed", x.count(7), 2);
        x.sign(0, 9);
        x.back();
        due("27 room again", x.keep(), 2);
        NobodyFirst y = new NobodyFirst();
        y.sign(0, 9);
        y.keep();
        y.takeBack();
        y.sign(10, 5);
        y.back();
        due("27 kept is what was, not what came", y.shame(0, 0), 21);
    }

    private static void back() {
        NobodyFirst x = laid("g0,100,90,1;s0,1;w0;l0,0;");
        due("28 nothing", x.back(), NO);
        x.sign(0, 2);
        x.keep();
        x.sign(0, 4);
        x.say(0);
        x.keep();
        x.sign(0, 8);
        x.say(0);
        due("28 now", x.shame(0, 0), 75 + 30);
        due("28 the last first", x.back(), 1);
        due("28 the last first", x.shame(0, 0), 83 + 20);
        due("28 nothing to take back", x.takeBack(), NO);
        x.sign(0, 16);
        due("28 but what comes behind", x.count(6), 1);
        due("28 then the first", x.back(), 0);
        due("28 then the first", x.shame(0, 0), 87 + 10);
        due("28 counts", x.count(2) * 10 + x.count(3), 21);
        due("28 nothing to take back", x.count(6), 0);
        due("28 no more", x.back(), NO);
        due("28 the guests stay", x.guest(0, 1), 100);
    }

    private static void count() {
        NobodyFirst x = laid("g0,1,1,1;g0,1,1,1;g2,1,1,1;s1,1;w1;w2;c1,1;c1,1;c1,1;y0,1,1;y2,1,0;y1,1,1;y0,5,0;");
        x.sign(1, 1);
        x.say(1);
        x.keep();
        int[] counts = {3, 2, 2, 3, 3, 4, 2, 1, 81};
        for (int what = 0; what < 9; what++) due("29 count " + what, x.count(what), counts[what]);
        for (int what : new int[] {-1, 9, LEAST, MOST}) due("29 what " + what, x.count(what), BAD);
    }

    /** Numbers of every sort into every call, of new objects and of full ones: nothing may be thrown. */
    private static void anyNumbers() {
        int[] odd = {LEAST, LEAST + 1, -100001, -3, -2, -1, 0, 1, 7, 8, 719, 1000, 99999, 1 << 30, MOST - 1, MOST};
        String full = "g3,359,199,5;".repeat(8) + "s359,99;".repeat(6) + "w359;".repeat(4) + "c99,999;" + "y7,359,1;".repeat(6);
        int asked = 0;
        for (int a : odd) {
            for (int b : odd) {
                askAll(new NobodyFirst(), a, b, odd);
                askAll(laid(full), a, b, odd);
                asked += 2;
            }
        }
        due("no call threw", asked, 2 * odd.length * odd.length);
    }

    private static void askAll(NobodyFirst x, int a, int b, int[] odd) {
        x.wasted(a);
        x.bell(a);
        x.best(a);
        x.given(a);
        x.rests(a);
        x.say(a);
        x.count(a);
        x.write(a, b);
        x.guest(a, b);
        x.shame(a, b);
        x.presses(a, b);
        x.is(a, b);
        x.when(a, b);
        x.frees(a, b);
        x.madeUp(a, b);
        x.cost(a, b);
        x.meant(a, b);
        x.drawn(a, b);
        x.sign(a, b);
        for (int c : odd) {
            x.since(a, b, c);
            x.leave(a, b, c);
        }
    }
}
