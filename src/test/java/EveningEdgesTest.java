/** The edges of promises 7 to 16: the minutes at which something changes, and what is just not so. */
public final class EveningEdgesTest {
    private static final int BAD = -1, NONE = -4;
    private static final Checks CHECKS = new Checks();

    public static void main(String[] args) {
        shameOfSigns();
        shameOfWhoStood();
        shameAtNothing();
        shameOfWords();
        pressesByShame();
        pressesOfABus();
        pressesOfAStayer();
        pressesOfASlyOne();
        pairsStand();
        atTheEnd();
        hallsEnd();
        is();
        when();
        wasted();
        frees();
        madeUp();
        bell();
        best();
        givenNone();
        givenOfSeveral();
        givenAtWhichMinute();
        givenOnTopOfSix();
        numbersOutside();
        CHECKS.end();
    }

    private static void due(String call, long got, long want) {
        CHECKS.due(call, got, want);
    }

    private static NobodyFirst laid(String text) {
        return Checks.laid(text);
    }

    // ---- 7 shame

    private static void shameOfSigns() {
        NobodyFirst x = laid("g0,359,199,0;g1,359,199,2;l0,0;s0,1;s359,99;");
        due("7 a sign at minute 0", x.shame(0, 0), 198);
        due("7 ahead of a sign at 359", x.shame(0, 358), 198);
        due("7 a sign at its own minute", x.shame(0, 359), 99);
        due("7 the last minute", x.shame(0, 719), 99);
        due("7 a deaf one at 0", x.shame(1, 0), 199);
        due("7 a deaf one at 719", x.shame(1, 719), 199);
        NobodyFirst six = laid("g0,359,199,0;l0,0;s0,1;s0,2;s0,4;s0,8;s0,16;s0,32;");
        due("7 six signs of one minute", six.shame(0, 0), 199 - 63);
    }

    private static void shameOfWhoStood() {
        NobodyFirst x = laid("g0,0,0,0;g1,359,199,0;l99,0;");
        due("7 who stands just then did not yet", x.shame(1, 0), 199);
        due("7 who stood a minute ago", x.shame(1, 1), 100);
        due("7 he is one himself, in his minute", x.shame(1, x.when(1, 0)), 100);
        due("7 he is one himself, a minute behind", x.shame(1, x.when(1, 0) + 1), 1);
        due("7 of who has none, too", x.shame(0, 719), 0);
        NobodyFirst none = laid("g0,0,0,0;g1,359,199,0;l0,0;");
        due("7 one who draws by nothing", none.shame(1, 1), 199);
        NobodyFirst two = laid("g0,0,0,0;g0,0,0,0;g1,359,199,2;l99,0;");
        due("7 two of one pair, of a deaf one", two.shame(2, 1), 1);
        NobodyFirst seven = laid("g0,0,0,0;".repeat(7) + "g1,359,199,2;l1,0;");
        due("7 seven of one pair", seven.shame(7, 1), 192);
        NobodyFirst gone = laid("g0,0,0,0;g1,359,50,0;l20,60;");
        due("7 in the hall", gone.is(0, 59) * 1000 + gone.shame(1, 59), 1030);
        due("7 who is gone stood, too", gone.is(0, 60) * 1000 + gone.shame(1, 60), 2030);
        NobodyFirst last = laid("g0,0,199,4;g1,0,199,4;l10,0;");
        due("7 who stands at 719 did not yet", last.shame(0, 719), 199);
    }

    private static void shameAtNothing() {
        NobodyFirst just = laid("g0,359,50,0;l0,0;s10,49;s20,1;s30,1;");
        due("7 one is left", just.shame(0, 19), 1);
        due("7 just nothing", just.shame(0, 20), 0);
        due("7 never below nothing", just.shame(0, 30), 0);
        NobodyFirst none = laid("g0,359,0,0;l0,0;s0,99;");
        due("7 of none at first", none.shame(0, 0), 0);
        NobodyFirst drawn = laid("g0,0,0,0;g1,359,98,0;l99,0;");
        due("7 drawn below nothing", drawn.shame(1, 1), 0);
        NobodyFirst both = laid("g0,0,0,0;g1,359,50,0;l30,0;s1,30;");
        due("7 signs and who stood together", both.shame(1, 1), 0);
    }

    private static void shameOfWords() {
        NobodyFirst x = laid("g0,359,199,1;g1,359,199,0;l0,0;w0;w359;");
        due("7 a word at minute 0", x.shame(0, 0), 209);
        due("7 ahead of a word at 359", x.shame(0, 358), 209);
        due("7 a word at its own minute", x.shame(0, 359), 219);
        due("7 who is not polite", x.shame(1, 359), 199);
        NobodyFirst four = laid("g0,359,20,1;l0,0;w5;w5;w5;w5;s5,99;");
        due("7 ahead of four words", four.shame(0, 4), 20);
        due("7 four words on top of nothing", four.shame(0, 5), 40);
        for (int kind = 0; kind <= 5; kind++) {
            NobodyFirst y = laid("g0,359,20," + kind + ";l0,0;w5;");
            due("7 a word, kind " + kind, y.shame(0, 5), kind == 1 ? 30 : 20);
            NobodyFirst z = laid("g0,359,20," + kind + ";l0,0;s5,7;");
            due("7 a sign, kind " + kind, z.shame(0, 5), kind == 2 ? 20 : 13);
        }
    }

    // ---- 8 presses

    private static void pressesByShame() {
        due("8 at minute 0", laid("g0,0,0,0;").presses(0, 0), 1);
        NobodyFirst one = laid("g0,0,1,0;");
        due("8 a minute too early", one.presses(0, 0), 0);
        due("8 W and shame together", one.presses(0, 1), 1);
        NobodyFirst late = laid("g0,359,199,1;w0;w0;w0;w0;l0,0;");
        due("8 the latest of all, ahead", late.presses(0, 597), 0);
        due("8 the latest of all", late.presses(0, 598), 1);
        due("8 the last minute", late.presses(0, 719), 1);
        NobodyFirst sign = laid("g0,100,50,0;g0,359,199,2;s120,30;l0,0;");
        due("8 ahead of the sign", sign.presses(0, 119), 0);
        due("8 at the sign", sign.presses(0, 120), 1);
        NobodyFirst exact = laid("g0,100,50,0;g0,359,199,2;s120,29;l0,0;");
        due("8 a sign that is worth one less", exact.presses(0, 120), 0);
        due("8 a minute later", exact.presses(0, 121), 1);
        NobodyFirst word = laid("g0,100,10,1;g0,359,199,2;w110;l0,0;");
        due("8 a word in the minute itself", word.presses(0, 110), 0);
        due("8 a word, ahead", word.presses(0, 119), 0);
        due("8 a word, then", word.presses(0, 120), 1);
    }

    private static void pressesOfABus() {
        due("8 a bus at 0", laid("g0,0,199,3;").presses(0, 0), 1);
        NobodyFirst x = laid("g0,359,199,3;w0;l0,0;");
        due("8 a bus a minute ahead", x.presses(0, 358), 0);
        due("8 a bus at 359", x.presses(0, 359), 1);
        due("8 a bus behind", x.presses(0, 719), 1);
    }

    private static void pressesOfAStayer() {
        NobodyFirst x = laid("g0,0,0,4;g1,100,0,0;g1,0,0,3;g2,200,0,0;l0,0;");
        due("8 a stayer at first", x.presses(0, 0), 0);
        due("8 a stayer, while another stands just then", x.presses(0, 200), 0);
        due("8 a stayer, when all others stood", x.presses(0, 201), 1);
        NobodyFirst own = laid("g0,0,0,4;g0,359,199,2;");
        due("8 a stayer, whose own pair sits", own.presses(0, 0), 1);
        NobodyFirst shame = laid("g0,0,20,4;g1,0,0,0;l0,0;");
        due("8 a stayer, too early", shame.presses(0, 19), 0);
        due("8 a stayer, as said", shame.presses(0, 20), 1);
        NobodyFirst two = laid("g0,0,0,4;g1,0,0,4;l0,0;");
        due("8 two stayers, the last minute", two.presses(0, 719) + two.presses(1, 719), 0);
    }

    private static void pressesOfASlyOne() {
        NobodyFirst x = laid("g0,100,199,5;g1,100,0,0;l0,0;");
        due("8 a sly one, when another stands just then", x.presses(0, 100), 0);
        due("8 a sly one, a minute behind", x.presses(0, 101), 1);
        NobodyFirst early = laid("g0,100,199,5;g1,0,0,0;l0,0;");
        due("8 a sly one ahead of W", early.presses(0, 99), 0);
        due("8 a sly one at W", early.presses(0, 100), 1);
        NobodyFirst alone = laid("g0,0,199,5;g0,0,199,5;l0,0;");
        due("8 sly ones alone, too early", alone.presses(0, 198), 0);
        due("8 sly ones alone, as said", alone.presses(1, 199), 1);
    }

    // ---- 9, 10 who sits, stands, is gone

    private static void pairsStand() {
        due("10 a pair of one", laid("g3,0,0,0;").when(0, 0), 0);
        NobodyFirst eight = laid("g0,0,0,0;".repeat(7) + "g0,70,7,0;l0,0;");
        due("10 seven of a pair of eight wait for one", eight.when(0, 0), 77);
        NobodyFirst bus = laid("g0,359,199,2;".repeat(7) + "g0,70,7,3;l0,0;");
        due("10 seven of a pair of eight go by a bus", bus.when(0, 0), 70);
        NobodyFirst once = laid("g0,100,20,0;g1,101,20,0;l20,0;");
        due("10 by who stood ahead, the first", once.when(0, 0), 120);
        due("10 by who stood ahead, the second", once.when(1, 0), 121);
        NobodyFirst chain = laid("g0,100,0,0;g1,0,199,5;g2,0,0,4;l0,0;");
        due("10 the first", chain.when(0, 0), 100);
        due("10 the sly one a minute behind", chain.when(1, 0), 101);
        due("10 the stayer a minute behind him", chain.when(2, 0), 102);
    }

    private static void atTheEnd() {
        NobodyFirst x = laid("g0,0,0,4;g1,0,0,4;l0,60;");
        due("9 at 718 they sit", x.is(0, 718) + x.is(1, 718), 0);
        due("9 at 719 each stands", x.is(0, 719) + x.is(1, 719), 2);
        due("10 at 719", x.when(0, 0) + x.when(1, 0), 1438);
        due("9 at 778 in the hall", x.is(0, 778), 1);
        due("9 at 779 gone", x.is(0, 779), 2);
        due("10 the latest of all", x.when(1, 1), 779);
        NobodyFirst none = laid("g0,0,0,4;g1,0,0,4;l0,0;");
        due("9 without a hall at 718", none.is(0, 718), 0);
        due("9 without a hall at 719", none.is(0, 719), 2);
    }

    private static void hallsEnd() {
        int[] halls = {1, 20, 60};
        for (int h : halls) {
            for (int apart : new int[] {h - 1, h, h + 1}) {
                NobodyFirst x = laid("g0,100,0,0;g1," + (100 + apart) + ",0,0;l0," + h + ";");
                due("10 the first goes, hall " + h + ", apart " + apart, x.when(0, 1), 100 + h + (apart <= h ? apart : 0));
                due("10 the second goes", x.when(1, 1), 100 + apart + h);
            }
        }
        NobodyFirst none = laid("g0,100,0,0;g1,100,0,0;g2,101,0,0;l0,0;");
        due("10 a hall of nothing", none.when(0, 1) + none.when(1, 1), 200);
        due("10 a hall of nothing, a minute later", none.when(2, 1), 101);
        NobodyFirst twice = laid("g0,100,0,0;g1,160,0,0;g2,220,0,0;g3,281,0,0;l0,60;");
        int[] goes = {280, 280, 280, 341};
        for (int i = 0; i < 4; i++) due("10 held up again and again " + i, twice.when(i, 1), goes[i]);
    }

    private static void is() {
        NobodyFirst first = laid("g0,0,0,0;l0,1;");
        due("9 stands at 0", first.is(0, 0), 1);
        due("9 gone at 1", first.is(0, 1), 2);
        due("9 gone at 999", first.is(0, 999), 2);
        due("9 at 0 without a hall", laid("g0,0,0,0;l0,0;").is(0, 0), 2);
        NobodyFirst x = laid("g0,100,0,0;g1,359,0,0;l0,60;");
        int[][] due = {{0, 99, 0}, {0, 100, 1}, {0, 159, 1}, {0, 160, 2}, {1, 358, 0}, {1, 359, 1}, {1, 418, 1}, {1, 419, 2}};
        for (int[] d : due) due("9 is " + d[0] + "," + d[1], x.is(d[0], d[1]), d[2]);
    }

    private static void when() {
        NobodyFirst x = laid("g0,0,0,0;l0,0;");
        due("10 the earliest", x.when(0, 0) + x.when(0, 1), 0);
        NobodyFirst late = laid("g0,359,199,1;w359;w359;w359;w359;l0,60;");
        due("10 the latest who is not held", late.when(0, 0), 598);
        due("10 goes", late.when(0, 1), 658);
    }

    // ---- 11 wasted

    private static void wasted() {
        NobodyFirst none = laid("g0,0,0,0;l0,0;b0;");
        due("11 nothing", none.wasted(0) + none.wasted(-1) + none.wasted(-2), 0);
        NobodyFirst early = laid("g0,0,0,3;g0,359,0,0;l0,0;b359;");
        due("11 the earliest", early.wasted(1), 359);
        due("11 of the host, the earliest", early.wasted(-1), 359);
        due("11 all", early.wasted(-2), 718);
        NobodyFirst late = laid("g0,0,0,4;".repeat(4) + "g1,0,0,4;".repeat(4) + "l0,60;b0;");
        due("11 the latest", late.wasted(7), 779);
        due("11 of the host, the latest", late.wasted(-1), 779);
        due("11 of the most who can be", late.wasted(-2), 9 * 779);
        due("11 no guest", late.wasted(8), BAD);
        due("11 below all", late.wasted(-3), BAD);
        NobodyFirst last = laid("g0,50,0,0;g1,40,0,0;l0,0;b50;");
        due("11 of the host by the last of all", last.wasted(-1), 0);
    }

    // ---- 12, 13 made-up buses

    private static void frees() {
        NobodyFirst x = laid("g0,100,50,0;l0,0;b100;");
        due("12 nothing", x.frees(0, 150), 100000);
        due("12 a minute earlier", x.frees(0, 149), 100002);
        due("12 a minute later", x.frees(0, 151), 99998);
        due("12 the first minute", x.frees(0, 0), 99900);
        due("12 the last minute", x.frees(0, 359), 100000 + 100 - 2 * 259);
        NobodyFirst own = laid("g0,100,0,3;l0,0;b0;");
        due("12 a bus at another minute, by his own W still", own.frees(0, 0), 100000);
        due("12 a bus at his minute", own.frees(0, 100), 100000);
        due("12 a bus later", own.frees(0, 101), 99998);
        NobodyFirst most = laid("g0,0,0,4;".repeat(4) + "g1,0,0,4;".repeat(4) + "l0,0;b0;");
        // Four go at once; then all others stood for the four stayers, who go a minute behind.
        due("12 the most", most.frees(0, 0), 100000 + 9 * 719 - 5);
    }

    private static void madeUp() {
        NobodyFirst none = laid("g0,100,0,0;l0,0;b100;");
        due("13 none better", none.frees(0, 100), 100000);
        due("13 what frees nothing is none", none.madeUp(0, 0), NONE);
        due("13 what frees nothing is none", none.madeUp(0, 1), NONE);
        NobodyFirst little = laid("g0,100,1,0;l0,0;b100;");
        due("13 just more than nothing", little.madeUp(0, 0), 100);
        due("13 just more than nothing", little.madeUp(0, 1), 100002);
        NobodyFirst tens = laid("g0,104,3,0;l0,0;b104;");
        due("13 104 is not tried", tens.frees(0, 104), 100006);
        due("13 of tens none", tens.madeUp(0, 0), NONE);
        NobodyFirst even = laid("g0,105,60,0;l0,0;b105;");
        due("13 both free the same", even.frees(0, 100) - even.frees(0, 110), 0);
        due("13 the lowest of two", even.madeUp(0, 0), 100);
        due("13 the first", laid("g0,0,60,0;l0,0;b0;").madeUp(0, 0), 0);
        NobodyFirst last = laid("g0,359,60,0;l0,0;b359;");
        due("13 the last", last.madeUp(0, 0), 350);
        due("13 the last frees", last.madeUp(0, 1), 100000 + 120 - 18);
        due("13 bad ahead of none", none.madeUp(0, 2), BAD);
        due("13 bad ahead of none", none.madeUp(1, 0), BAD);
    }

    // ---- 14, 15 bells

    private static void bell() {
        NobodyFirst x = laid("g0,100,50,0;l0,0;b100;");
        due("14 as it is", x.wasted(-2), 100);
        due("14 at 0", x.bell(0), 200);
        due("14 a minute ahead", x.bell(149), 98);
        due("14 in his minute", x.bell(150), 100);
        due("14 a minute behind", x.bell(151), 100);
        due("14 at 719", x.bell(719), 100);
        NobodyFirst stayers = laid("g0,0,0,4;g1,0,0,4;l0,0;b0;");
        due("14 at 718", stayers.bell(718), 3 * 718);
        due("14 at 719 each stands anyway", stayers.bell(719), 3 * 719);
        NobodyFirst hall = laid("g0,100,0,0;g1,359,0,0;l0,60;b0;");
        due("14 in the minute in which the hall ends", hall.bell(160), 120 + 139 + 220);
        due("14 a minute behind", hall.bell(161), 60 + 138 + 221);
        due("14 it was for that once", hall.wasted(-2), 60 + 60 + 419);
    }

    private static void best() {
        due("15 the first", laid("g0,0,60,0;l0,0;b0;").best(0), 0);
        NobodyFirst last = laid("g0,359,60,0;l0,0;b359;");
        due("15 the last", last.best(0), 350);
        due("15 the last", last.best(1), 18);
        NobodyFirst even = laid("g0,105,60,0;l0,0;b105;");
        due("15 both the same", even.bell(100) - even.bell(110), 0);
        due("15 the lowest of two", even.best(0), 100);
        NobodyFirst same = laid("g0,0,0,0;l0,0;b0;");
        due("15 all the same", same.best(0) * 10 + same.best(1), 0);
        NobodyFirst tens = laid("g0,104,60,0;l0,0;b104;");
        due("15 104 is not tried", tens.bell(104), 0);
        due("15 of tens", tens.best(0) * 100 + tens.best(1), 10008);
        NobodyFirst later = laid("g0,200,0,0;l0,0;b200;");
        due("15 when it rings behind all it is the lowest of those", later.best(0), 200);
    }

    // ---- 16 given

    private static void givenNone() {
        NobodyFirst none = laid("g0,100,40,0;l0,0;b100;");
        due("16 none can be given", none.given(-1), 80);
        due("16 no first one", none.given(0), BAD);
        NobodyFirst same = laid("g0,100,40,0;l0,0;b100;c40,80;");
        due("16 it costs what it saves", same.given(-1), 80);
        due("16 then not", same.given(0), NONE);
        NobodyFirst one = laid("g0,100,40,0;l0,0;b100;c40,79;");
        due("16 it costs one less", one.given(-1), 79);
        due("16 then at once", one.given(0), 0);
        NobodyFirst dear = laid("g0,0,0,4;g1,0,199,5;l0,0;b0;c99,999;");
        due("16 the dearest", dear.given(-1) * 10L + dear.given(0), (200 + 199 + 200) * 10L + NONE);
        NobodyFirst free = laid("g0,100,0,0;l0,0;b100;c1,0;");
        due("16 not, where it does nothing and costs nothing", free.given(0), NONE);
        due("16 bad ahead of none", free.given(1), BAD);
    }

    private static void givenOfSeveral() {
        NobodyFirst x = laid("g0,100,99,0;l0,0;b100;c99,3;c99,3;c99,3;");
        due("16 of three alike", x.given(-1), 3);
        due("16 the first: not", x.given(0), NONE);
        due("16 the second: not", x.given(1), NONE);
        due("16 the third: at once", x.given(2), 0);
        due("16 no fourth", x.given(3), BAD);
        NobodyFirst all = laid("g0,100,100,0;l0,0;b100;c50,0;c25,0;c25,0;");
        due("16 all three", all.given(-1), 0);
        for (int i = 0; i < 3; i++) due("16 all three, " + i, all.given(i), 0);
        NobodyFirst cheap = laid("g0,100,99,0;l0,0;b100;c99,2;c99,3;c99,3;");
        due("16 the one that costs less", cheap.given(0), 0);
        due("16 no other", cheap.given(1) + cheap.given(2), 2 * NONE);
    }

    private static void givenAtWhichMinute() {
        // To 325 the second would stand at 325 and hold up the first; at 330 the first is gone by then.
        NobodyFirst last = laid("g0,319,0,0;g1,325,40,0;l0,10;b359;c40,0;");
        due("16 the last minute", last.given(0), 330);
        // 360 would be better still: then the second would hold up none of the three.
        NobodyFirst over = laid("g0,349,0,0;g0,349,0,0;g0,349,0,0;g1,355,40,0;l0,10;b359;c40,0;");
        due("16 360 is none", over.given(0), 0);
        // A sign counts from its minute on: at 120 he stands at 120, and at 90 at 100.
        NobodyFirst mid = laid("g0,100,80,0;l0,0;b140;c80,0;");
        due("16 all the same from 0 to 120", mid.given(-1), 40);
        due("16 the lowest", mid.given(0), 0);
        // Whatever makes him stand from 0 to 30 is the same, so the last one is not given.
        NobodyFirst thirty = laid("g0,0,199,0;l0,0;b30;c99,0;c99,0;c1,0;");
        due("16 all the same from 0 to 30", thirty.given(-1), 30);
        due("16 the lowest of the first two", thirty.given(0) + thirty.given(1), 0);
        due("16 not, ahead of minute 0", thirty.given(2), NONE);
    }

    private static void givenOnTopOfSix() {
        NobodyFirst x = laid("g0,0,199,0;l0,0;b0;" + "s0,10;".repeat(6) + "c99,1;c39,1;c1,1;");
        due("16 of six told", x.wasted(-2), 278);
        due("16 three on top of six", x.given(-1), 3);
        for (int i = 0; i < 3; i++) due("16 three on top of six, " + i, x.given(i), 0);
        due("16 they are not told by it", x.count(2) * 1000 + x.wasted(-2), 6278);
    }

    // ---- BAD

    private static void numbersOutside() {
        String eight = "g0,1,1,0;g1,1,1,1;g2,1,1,2;g3,1,1,3;g0,1,1,4;g1,1,1,5;g2,1,1,0;g3,1,1,0;";
        for (int guests = 1; guests <= 8; guests++) {
            NobodyFirst x = laid(eight.substring(0, 9 * guests));
            int last = guests - 1;
            CHECKS.outside("7 guest", i -> x.shame(i, 0), 0, last);
            CHECKS.outside("8 guest", i -> x.presses(i, 0), 0, last);
            CHECKS.outside("9 guest", i -> x.is(i, 0), 0, last);
            CHECKS.outside("10 guest", i -> x.when(i, 0), 0, last);
            CHECKS.outside("11 guest, host, all", x::wasted, -2, last);
            CHECKS.outside("12 guest", i -> x.frees(i, 0), 0, last);
            CHECKS.outside("13 guest", i -> x.madeUp(i, 0), 0, last);
            CHECKS.outside("7 minute", t -> x.shame(last, t), 0, 719);
            CHECKS.outside("8 minute", t -> x.presses(last, t), 0, 719);
            CHECKS.outside("9 minute", t -> x.is(last, t), 0, 999);
            CHECKS.outside("10 what", what -> x.when(last, what), 0, 1);
            CHECKS.outside("12 minute", m -> x.frees(last, m), 0, 359);
            CHECKS.outside("13 what", what -> x.madeUp(last, what), 0, 1);
            CHECKS.outside("14 minute", x::bell, 0, 719);
            CHECKS.outside("15 what", x::best, 0, 1);
        }
        for (int offers = 0; offers <= 3; offers++) {
            NobodyFirst x = laid("g0,1,1,0;" + "c1,1;".repeat(offers));
            CHECKS.outside("16 of " + offers, x::given, -1, offers - 1);
        }
    }
}
