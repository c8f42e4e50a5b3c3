/** The edges of promises 24 to 29: the most that can be told, taken back and kept, and one more. */
public final class SignEdgesTest {
    private static final int BAD = -1, NO = -2, FULL = -3;
    private static final Checks CHECKS = new Checks();
    /** A polite one who never presses ahead of 359, so that his shame tells each sign and word. */
    private static final String HIM = "g0,359,199,1;l0,0;";

    public static void main(String[] args) {
        signRanges();
        signsToTheMost();
        wordRanges();
        wordsToTheMost();
        takenBackToTheFirst();
        takenBackOfTen();
        takenBackOfNine();
        takenBackAndToldAnew();
        takenBackWhenFull();
        nothingOfTheText();
        nothingAheadOfBack();
        nothingAheadOfLay();
        keepToTheMost();
        backToTheFirst();
        keptWhenFull();
        keptIsACopy();
        count();
        CHECKS.end();
    }

    private static void due(String call, long got, long want) {
        CHECKS.due(call, got, want);
    }

    /** Signs, words, what can be taken back and what is kept, one figure each. */
    private static int counts(NobodyFirst x) {
        return x.count(2) * 1000 + x.count(3) * 100 + x.count(6) * 10 + x.count(7);
    }

    // ---- 24, 25 one more

    private static void signRanges() {
        for (int m : new int[] {0, 359}) {
            for (int v : new int[] {1, 99}) {
                NobodyFirst x = Checks.laid(HIM);
                due("24 at " + m + " worth " + v, x.sign(m, v), 1);
                due("24 it counts from then on", x.shame(0, m), 199 - v);
                if (m > 0) due("24 not ahead", x.shame(0, m - 1), 199);
            }
        }
        for (int m : new int[] {Integer.MIN_VALUE, -360, -1, 360, 719, Integer.MAX_VALUE}) {
            NobodyFirst x = Checks.laid(HIM);
            due("24 at " + m, x.sign(m, 1), BAD);
            due("24 nothing changed", counts(x) + x.shame(0, 719), 199);
        }
        for (int v : new int[] {Integer.MIN_VALUE, -1, 0, 100, Integer.MAX_VALUE}) {
            NobodyFirst x = Checks.laid(HIM);
            due("24 worth " + v, x.sign(0, v), BAD);
            due("24 nothing changed", counts(x) + x.shame(0, 719), 199);
        }
    }

    private static void signsToTheMost() {
        for (int told = 0; told <= 6; told++) {
            NobodyFirst x = Checks.laid(HIM + "s0,1;".repeat(told));
            for (int more = told + 1; more <= 6; more++) due("24 the next of " + told + " told", x.sign(0, 1), more);
            due("24 one more than six", x.sign(0, 77), FULL);
            due("24 bad ahead of full", x.sign(0, 100), BAD);
            due("24 bad ahead of full", x.sign(-1, 1), BAD);
            due("24 nothing changed", counts(x), 6000 + 10 * (6 - told));
            due("24 six count, as they were", x.shame(0, 0), 193);
            due("24 six count, as they were", x.shame(0, 359), 193);
            due("24 a word has room still", x.say(0), 1);
        }
    }

    private static void wordRanges() {
        for (int m : new int[] {0, 359}) {
            NobodyFirst x = Checks.laid(HIM);
            due("25 at " + m, x.say(m), 1);
            due("25 it counts from then on", x.shame(0, m), 209);
            if (m > 0) due("25 not ahead", x.shame(0, m - 1), 199);
        }
        for (int m : new int[] {Integer.MIN_VALUE, -360, -1, 360, 719, Integer.MAX_VALUE}) {
            NobodyFirst x = Checks.laid(HIM);
            due("25 at " + m, x.say(m), BAD);
            due("25 nothing changed", counts(x) + x.shame(0, 719), 199);
        }
    }

    private static void wordsToTheMost() {
        for (int told = 0; told <= 4; told++) {
            NobodyFirst x = Checks.laid(HIM + "w0;".repeat(told));
            for (int more = told + 1; more <= 4; more++) due("25 the next of " + told + " told", x.say(0), more);
            due("25 one more than four", x.say(300), FULL);
            due("25 bad ahead of full", x.say(360), BAD);
            due("25 bad ahead of full", x.say(-1), BAD);
            due("25 nothing changed", counts(x), 400 + 10 * (4 - told));
            due("25 four count, as they were", x.shame(0, 0), 239);
            due("25 four count, as they were", x.shame(0, 359), 239);
            due("25 a sign has room still", x.sign(0, 1), 1);
        }
    }

    // ---- 26 taken back

    private static void takenBackToTheFirst() {
        NobodyFirst x = Checks.laid(HIM);
        due("26 nothing was told", x.takeBack(), NO);
        due("26 nothing changed", counts(x), 0);
        x.sign(0, 9);
        due("26 the only one", x.takeBack(), 0);
        due("26 it counts no more", x.shame(0, 0), 199);
        due("26 no more", x.takeBack(), NO);
        due("26 nothing changed", counts(x), 0);
        x.say(0);
        due("26 the only word", x.takeBack(), 0);
        due("26 it counts no more", x.shame(0, 0), 199);
        due("26 no more", x.takeBack(), NO);
    }

    private static void takenBackOfTen() {
        NobodyFirst x = Checks.laid(HIM);
        for (int k = 0; k < 6; k++) x.sign(0, 1 << k);
        for (int k = 1; k <= 4; k++) {
            x.say(0);
            due("26 eight at most can be", x.count(6), Math.min(6 + k, 8));
        }
        for (int left = 7; left >= 4; left--) {
            due("26 the latest word", x.takeBack(), left);
            due("26 the latest word", x.shame(0, 0), 199 - 63 + 10 * (left - 4));
        }
        for (int left = 3; left >= 0; left--) {
            due("26 the latest sign", x.takeBack(), left);
            due("26 the latest sign", x.shame(0, 0), 199 - ((1 << (left + 2)) - 1));
        }
        due("26 the ninth", x.takeBack(), NO);
        due("26 the first two stay", counts(x), 2000);
        due("26 and count", x.shame(0, 0), 196);
    }

    private static void takenBackOfNine() {
        NobodyFirst x = Checks.laid(HIM);
        x.say(0);
        for (int k = 0; k < 6; k++) x.sign(0, 1);
        x.say(0);
        due("26 eight of eight", x.count(6), 8);
        x.say(0);
        due("26 eight of nine", x.count(6), 8);
        for (int left = 7; left >= 0; left--) due("26 one of eight", x.takeBack(), left);
        due("26 the first word stays", counts(x), 100);
        due("26 no more", x.takeBack(), NO);
        due("26 nothing changed", counts(x) + x.shame(0, 0), 309);
    }

    private static void takenBackAndToldAnew() {
        NobodyFirst x = Checks.laid(HIM);
        // Far more than eight in all: each is taken back ahead of the next.
        for (int k = 1; k <= 20; k++) {
            due("26 told", x.sign(0, k), 1);
            due("26 this one counts", x.shame(0, 0), 199 - k);
            due("26 taken back", x.takeBack(), 0);
        }
        due("26 nothing is left", counts(x) + x.shame(0, 0), 199);
        x.sign(0, 1);
        x.sign(0, 2);
        x.takeBack();
        x.sign(0, 4);
        due("26 in the place of the one taken back", x.shame(0, 0), 194);
        due("26 then the first", x.takeBack() * 10 + x.takeBack(), 10);
    }

    private static void takenBackWhenFull() {
        NobodyFirst x = Checks.laid(HIM + "s0,1;".repeat(5) + "w0;w0;w0;");
        x.sign(0, 9);
        due("26 full", x.sign(0, 8), FULL);
        due("26 the refused one is not to be taken back", x.count(6), 1);
        due("26 the one told is", x.takeBack(), 0);
        due("26 room again", x.sign(0, 7), 6);
        x.say(0);
        due("26 full", x.say(0), FULL);
        due("26 the word", x.takeBack(), 1);
        due("26 room again", x.say(0), 4);
        due("26 all count", x.shame(0, 0), 199 - 5 - 7 + 40);
    }

    private static void nothingOfTheText() {
        NobodyFirst x = Checks.laid(HIM + "s0,1;".repeat(6) + "w0;".repeat(4));
        due("26 none told in the text", x.takeBack(), NO);
        due("26 nothing changed", counts(x), 6400);
        NobodyFirst y = Checks.laid(HIM + "s0,1;w0;");
        y.sign(0, 2);
        y.say(0);
        due("26 two of four", y.takeBack() * 10 + y.takeBack(), 10);
        due("26 the text's stay", y.takeBack(), NO);
        due("26 the text's stay", counts(y) + y.shame(0, 0), 1100 + 208);
    }

    private static void nothingAheadOfBack() {
        NobodyFirst x = Checks.laid(HIM);
        x.sign(0, 1);
        x.say(0);
        x.keep();
        due("27 keep leaves what can be taken back", x.count(6), 2);
        x.sign(0, 2);
        due("28 back", x.back(), 0);
        due("26 none ahead of back()", x.takeBack(), NO);
        due("26 nothing changed", counts(x), 1100);
        x.sign(0, 4);
        due("26 what is told behind can be", x.takeBack(), 0);
        due("26 but no more", x.takeBack(), NO);
        due("26 as kept", counts(x) + x.shame(0, 0), 1100 + 208);
    }

    private static void nothingAheadOfLay() {
        NobodyFirst x = Checks.laid(HIM + "s0,1;");
        x.sign(0, 2);
        x.say(0);
        x.keep();
        x.keep();
        due("5 laid anew", x.lay(), 1);
        due("5 nothing to be taken back, nothing kept", counts(x), 1000);
        due("26 no", x.takeBack(), NO);
        due("28 no", x.back(), NO);
        due("5 the text's sign counts", x.shame(0, 0), 198);
        due("27 room for the first", x.keep(), 1);
        due("27 and the second", x.keep(), 2);
        due("27 no third", x.keep(), FULL);
    }

    // ---- 27, 28 kept

    private static void keepToTheMost() {
        NobodyFirst x = Checks.laid(HIM);
        due("27 the first", x.keep(), 1);
        due("27 the second", x.keep(), 2);
        x.sign(0, 9);
        due("27 a third", x.keep(), FULL);
        due("27 nothing changed", counts(x), 1012);
        due("28 the second is as it was kept", x.back(), 1);
        due("28 without the sign", counts(x) + x.shame(0, 0), 1 + 199);
        due("27 room for one", x.keep(), 2);
        due("27 no more", x.keep(), FULL);
    }

    private static void backToTheFirst() {
        NobodyFirst x = Checks.laid(HIM);
        due("28 nothing kept", x.back(), NO);
        x.sign(0, 1);
        due("28 nothing kept", x.back(), NO);
        due("28 nothing changed", counts(x), 1010);
        x.keep();
        x.sign(0, 2);
        x.keep();
        x.sign(0, 4);
        x.say(0);
        due("28 the last kept first", x.back(), 1);
        due("28 as kept last", counts(x) + x.shame(0, 0), 2001 + 196);
        due("28 then the first", x.back(), 0);
        due("28 as kept first", counts(x) + x.shame(0, 0), 1000 + 198);
        due("28 no more", x.back(), NO);
        due("28 nothing changed", counts(x) + x.shame(0, 0), 1000 + 198);
    }

    private static void keptWhenFull() {
        NobodyFirst x = Checks.laid(HIM);
        x.keep();
        for (int k = 0; k < 6; k++) x.sign(0, 1);
        for (int k = 0; k < 4; k++) x.say(0);
        x.keep();
        due("27 six, four and eight", counts(x), 6482);
        for (int k = 0; k < 8; k++) x.takeBack();
        due("26 two are left", counts(x), 2002);
        due("28 the full one", x.back(), 1);
        due("28 the full one", counts(x) + x.shame(0, 0), 6401 + 233);
        due("24 full", x.sign(0, 1), FULL);
        due("25 full", x.say(0), FULL);
        due("28 the empty one", x.back(), 0);
        due("28 the empty one", counts(x) + x.shame(0, 0), 199);
        due("24 room again", x.sign(0, 1), 1);
        due("25 room again", x.say(0), 1);
    }

    private static void keptIsACopy() {
        NobodyFirst x = Checks.laid(HIM);
        x.sign(10, 3);
        x.say(20);
        x.keep();
        x.takeBack();
        x.takeBack();
        x.sign(0, 50);
        x.say(0);
        due("28 back", x.back(), 0);
        due("28 the sign is as it was", x.shame(0, 9) * 1000 + x.shame(0, 10), 199196);
        due("28 the word is as it was", x.shame(0, 19) * 1000 + x.shame(0, 20), 196206);
        NobodyFirst same = Checks.laid(HIM);
        same.sign(0, 1);
        same.keep();
        same.keep();
        same.back();
        same.takeBack();
        same.sign(0, 2);
        due("28 the first is not touched behind the second", same.back(), 0);
        due("28 the first is not touched behind the second", same.shame(0, 0), 198);
    }

    // ---- 29 count

    private static void count() {
        NobodyFirst first = new NobodyFirst();
        CHECKS.outside("29 what", first::count, 0, 8);
        int[] least = {2, 2, 0, 0, 0, 0, 0, 0, 0};
        for (int what = 0; what < least.length; what++) due("29 at first " + what, first.count(what), least[what]);
        String text = "g0,1,1,1;g1,1,1,1;g2,1,1,1;g3,1,1,1;".repeat(2) + "c1,1;".repeat(3) + "y7,1,1;".repeat(6);
        NobodyFirst x = Checks.laid(text);
        for (int k = 0; k < 6; k++) x.sign(0, 1);
        for (int k = 0; k < 4; k++) x.say(0);
        x.keep();
        x.keep();
        Checks.writeText(x, "b12;".repeat(100).substring(0, 400 - text.length()));
        int[] most = {8, 4, 6, 4, 3, 6, 8, 2, 400};
        for (int what = 0; what < most.length; what++) due("29 the most " + what, x.count(what), most[what]);
        due("29 the text alone is wiped", x.wipe() * 10 + x.count(8), 4000);
        for (int what = 0; what < 8; what++) due("29 the others stay " + what, x.count(what), most[what]);
    }
}
