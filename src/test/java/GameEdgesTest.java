import java.math.BigInteger;

/** The edges of promises 17 to 23: slots, odds, rounds of leave, draws. */
public final class GameEdgesTest {
    private static final int BAD = -1, NONE = -4;
    private static final Checks CHECKS = new Checks();
    private static final String FOUR = "g0,180,1,0;g1,210,2,0;g2,240,3,0;g3,270,4,0;";

    public static void main(String[] args) {
        costAtTheEdges();
        costOfWhoIsFirst();
        costByFigures();
        costOfPairs();
        rests();
        restsOfManyAlike();
        price();
        meant();
        sinceOfOneLook();
        sinceOfManyLooks();
        leaveOfFew();
        leaveOfMany();
        leaveOutside();
        drawnByTheSixth();
        drawnByHugeNumbers();
        drawnForWhom();
        drawnOutside();
        CHECKS.end();
    }

    private static void due(String call, long got, long want) {
        CHECKS.due(call, got, want);
    }

    private static NobodyFirst laid(String text) {
        return Checks.laid(text);
    }

    // ---- 17 cost

    private static void costAtTheEdges() {
        NobodyFirst x = laid("g0,0,0,0;");
        due("17 slot 0 is minute 180", x.cost(0, 0), 180);
        due("17 slot 5 is minute 330", x.cost(0, 5), 330);
        for (int slot = 0; slot <= 5; slot++) due("17 slot " + slot, x.cost(0, slot), 180 + 30 * slot);
        for (int slot = 6; slot <= 9; slot++) due("17 slot " + slot, x.cost(0, slot), BAD);
        NobodyFirst late = laid("g0,359,199,0;");
        due("17 the other way", late.cost(0, 0), 179 + 199);
        due("17 the other way", late.cost(0, 5), 29 + 199);
        due("17 no way", laid("g0,330,0,0;").cost(0, 5), 0);
    }

    private static void costOfWhoIsFirst() {
        NobodyFirst x = laid("g0,180,7,0;g1,180,9,0;");
        due("17 one slot earlier", x.cost(0, 10), 7);
        due("17 as early", x.cost(0, 0) + x.cost(1, 0), 0);
        due("17 as early, the last slot", x.cost(0, 55), 150);
        due("17 one slot later", x.cost(0, 1), 30);
        due("17 the other one slot earlier", x.cost(1, 1), 9);
        NobodyFirst four = laid(FOUR);
        due("17 two are first", four.cost(0, 5511) + four.cost(1, 5511), 30);
        due("17 one is first", four.cost(3, 555), 90 + 4);
        due("17 the others are not", four.cost(0, 555), 150);
    }

    private static void costByFigures() {
        NobodyFirst one = laid("g2,180,0,0;");
        due("17 figures of pairs that are not there", one.cost(0, 99990), 0);
        due("17 the most figures", one.cost(0, 99999), BAD);
        due("17 above the most", one.cost(0, 100000), BAD);
        due("17 below the least", one.cost(0, -1), BAD);
        NobodyFirst four = laid(FOUR);
        due("17 the fifth figure does not count", four.cost(0, 90000), 0);
        due("17 the fifth figure does not count", four.cost(3, 95555), 60);
        for (int p = 0, place = 1; p < 4; p++, place *= 10) {
            due("17 a slot of 5 of pair " + p, four.cost(0, 5 * place) == BAD ? 1 : 0, 0);
            for (int slot = 6; slot <= 9; slot++) {
                for (int i = 0; i < 4; i++) due("17 a slot of " + slot + " of pair " + p, four.cost(i, slot * place), BAD);
            }
        }
        CHECKS.outside("17 figures", x -> four.cost(0, x), 0, 95555);
        CHECKS.outside("17 figures", x -> one.cost(0, x), 0, 99995);
        NobodyFirst three = laid("g0,180,1,0;g1,210,2,0;g3,270,4,0;");
        due("17 three pairs, the fourth figure does not count", three.cost(2, 9111), 60);
        due("17 three pairs, the third does", three.cost(0, 9611), BAD);
    }

    private static void costOfPairs() {
        for (int pairs = 1; pairs <= 4; pairs++) {
            NobodyFirst x = laid(FOUR.substring(0, 11 * pairs));
            CHECKS.outside("17 pair of " + pairs, i -> x.cost(i, 0), 0, pairs - 1);
            CHECKS.outside("18 pair of " + pairs, x::rests, -1, pairs - 1);
            due("29 so many pairs", x.count(1), pairs);
        }
        NobodyFirst one = laid("g3,200,5,0;g3,359,0,0;g3,0,199,0;".repeat(2) + "g3,1,1,1;g3,1,1,1;");
        due("17 eight of one pair: the greatest of each", one.cost(0, 0), 179 + 199);
        due("17 no second pair", one.cost(1, 0), BAD);
        NobodyFirst gap = laid("g3,300,5,0;g1,200,6,0;");
        due("17 by their numbers, the first", gap.cost(0, 10), 20 + 6);
        due("17 by their numbers, the second", gap.cost(1, 10), 90);
    }

    // ---- 18, 19 rests, price

    private static void rests() {
        NobodyFirst first = laid("g0,0,0,0;");
        due("18 one rest, the first slot", first.rests(-1) * 10 + first.rests(0), 10);
        NobodyFirst last = laid("g0,359,199,0;");
        due("18 one rest, the last slot", last.rests(-1) * 10 + last.rests(0), 15);
        NobodyFirst even = laid("g0,315,0,0;");
        due("18 as near to both", even.rests(-1) * 10 + even.rests(0), 24);
        // At 210 the first would be alone: 180 costs it 30 and its shame, 210 costs nothing more than both.
        NobodyFirst just = laid("g0,180,30,0;g1,210,0,0;");
        due("18 no less by another slot is a rest", just.rests(-1), 2);
        due("18 the first of them", just.rests(0) * 10 + just.rests(1), 1);
        NobodyFirst less = laid("g0,180,31,0;g1,210,0,0;");
        due("18 less by one is none", less.rests(-1), 1);
        due("18 the other", less.rests(0) * 10 + less.rests(1), 11);
        due("18 no pair", less.rests(2), BAD);
    }

    private static void restsOfManyAlike() {
        // Shame above the way from the last slot: who is alone ahead would wait for the others.
        NobodyFirst x = laid("g0,180,199,0;g1,180,199,0;g2,180,199,0;g3,180,199,0;");
        int found = 0;
        int[] first = null;
        for (int way = 0; way < 1296; way++) {
            int[] slots = {way / 216, way / 36 % 6, way / 6 % 6, way % 6};
            if (!isRest(slots, 180, 199)) continue;
            found++;
            if (first == null) first = slots;
        }
        due("18 of four alike", x.rests(-1), found);
        for (int i = 0; i < 4; i++) due("18 of four alike, the first", x.rests(i), first[i]);
        due("19 of four alike", x.price(), 0);
        due("18 no fifth", x.rests(4), BAD);
    }

    private static boolean isRest(int[] slots, int w, int s) {
        for (int i = 0; i < slots.length; i++) {
            int now = costAt(slots, i, slots[i], w, s);
            for (int other = 0; other < 6; other++) if (costAt(slots, i, other, w, s) < now) return false;
        }
        return true;
    }

    private static int costAt(int[] slots, int i, int slot, int w, int s) {
        boolean alone = true;
        for (int k = 0; k < slots.length; k++) if (k != i && slots[k] <= slot) alone = false;
        return Math.abs(180 + 30 * slot - w) + (alone ? s : 0);
    }

    private static void price() {
        due("19 nothing", laid("g0,0,0,0;").price(), 0);
        // The only rest, 1 and 1, costs the first 30; so would 0 and 0 the second.
        due("19 a rest that costs the least of all", laid("g0,180,31,0;g1,210,0,0;").price(), 0);
        // The only rest, 0, 1, 1, costs 20, 10, 10; did one of those two come to 0, it would cost 0, 20, 10.
        NobodyFirst x = laid("g0,180,20,0;g1,200,0,0;g2,200,0,0;");
        due("19 the only rest", x.rests(-1) * 1000 + x.rests(0) * 100 + x.rests(1) * 10 + x.rests(2), 1011);
        due("19 it costs more than need be", x.price(), 10);
    }

    // ---- 20 meant

    private static void meant() {
        NobodyFirst x = laid("g0,0,0,0;u1,0,99;u2,99,0;u3,99,99;");
        int[][] due = {{1, 0, 1}, {2, 1, 1}, {3, 1, 2}};
        for (int[] d : due) due("20 of " + d[0], x.meant(d[0], 0) * 10 + x.meant(d[0], 1), d[1] * 10 + d[2]);
        NobodyFirst y = laid("g0,0,0,0;u1,0,0;u2,98,99;u3,1,99;");
        due("20 nothing both", y.meant(1, 0) + y.meant(1, 1), 2 * NONE);
        due("20 the greatest below", y.meant(2, 0) * 1000 + y.meant(2, 1), 98197);
        due("20 one in a hundred", y.meant(3, 0) * 1000 + y.meant(3, 1), 1100);
        due("20 bad ahead of none", y.meant(1, 2), BAD);
        due("20 bad ahead of none", y.meant(1, -1), BAD);
        CHECKS.outside("20 times", n -> x.meant(n, 0), 1, 3);
        CHECKS.outside("20 part", part -> x.meant(3, part), 0, 1);
        NobodyFirst without = new NobodyFirst();
        for (int n = 1; n <= 3; n++) due("20 without", without.meant(n, 0) + without.meant(n, 1), 2 * NONE);
    }

    // ---- 21 since

    private static void sinceOfOneLook() {
        for (int w = 0; w <= 11; w++) {
            // A yawn in the minute itself leaves w + 1 of equal weight, a minute earlier one fewer.
            NobodyFirst at = laid("g0,0,0,0;y0," + 30 * w + ",1;");
            due("21 a yawn from it on", at.since(0, w, 0) * 100 + at.since(0, w, 1), 100 + w + 1);
            if (w < 11) due("21 a yawn ahead of the next", at.since(0, w + 1, 0) * 100 + at.since(0, w + 1, 1), 1);
            if (w > 0) {
                NobodyFirst ahead = laid("g0,0,0,0;y0," + (30 * w - 1) + ",1;");
                due("21 a yawn a minute ahead", ahead.since(0, w, 0) * 100 + ahead.since(0, w, 1), 1);
                due("21 a yawn a minute ahead", ahead.since(0, w - 1, 0) * 100 + ahead.since(0, w - 1, 1), 100 + w);
            }
        }
        NobodyFirst last = laid("g0,0,0,0;y0,359,1;");
        due("21 a yawn at the last minute", last.since(0, 11, 0) * 100 + last.since(0, 11, 1), 112);
        NobodyFirst none = laid("g0,0,0,0;y0,0,0;");
        due("21 none at 0: 7 by 117", none.since(0, 0, 0) * 1000 + none.since(0, 0, 1), 7117);
        due("21 none at 0: 10 by 117", none.since(0, 11, 0) * 1000 + none.since(0, 11, 1), 10117);
        NobodyFirst late = laid("g0,0,0,0;y0,330,0;");
        due("21 none at 330, all alike", late.since(0, 11, 0) * 100 + late.since(0, 11, 1), 112);
        NobodyFirst ahead = laid("g0,0,0,0;y0,329,0;");
        due("21 none at 329: 10 by 87", ahead.since(0, 11, 0) * 100 + ahead.since(0, 11, 1), 1087);
        due("21 none at 329: 7 by 87", ahead.since(0, 10, 0) * 100 + ahead.since(0, 10, 1), 787);
    }

    private static void sinceOfManyLooks() {
        NobodyFirst x = laid("g0,0,0,0;g0,0,0,0;" + "y1,0,0;".repeat(6));
        due("21 six looks, the least", x.since(1, 0, 0), 117649);
        due("21 six looks, the most", x.since(1, 1, 0), 1000000);
        due("21 six looks, below", x.since(1, 1, 1), 11117649);
        due("21 no look at the other", x.since(0, 5, 0) * 100 + x.since(0, 5, 1), 112);
        NobodyFirst yawns = laid("g0,0,0,0;" + "y0,0,1;".repeat(6));
        due("21 six yawns at 0", yawns.since(0, 0, 0) * 10 + yawns.since(0, 0, 1), 11);
        due("21 six yawns at 0, later", yawns.since(0, 1, 0) * 10 + yawns.since(0, 1, 1), 1);
        NobodyFirst mixed = laid("g0,0,0,0;y0,30,1;y0,29,0;");
        // 0: 3 and 7; 30: 3 and 10; from 60 on the yawn is ahead.
        due("21 both sorts", mixed.since(0, 0, 0) * 100 + mixed.since(0, 0, 1), 717);
        due("21 both sorts", mixed.since(0, 1, 0) * 100 + mixed.since(0, 1, 1), 1017);
        due("21 both sorts", mixed.since(0, 2, 0) * 100 + mixed.since(0, 2, 1), 1);
        CHECKS.outside("21 guest", i -> x.since(i, 0, 0), 0, 1);
        CHECKS.outside("21 minute", w -> x.since(1, w, 0), 0, 11);
        CHECKS.outside("21 part", part -> x.since(1, 11, part), 0, 1);
        NobodyFirst eight = laid("g0,0,0,0;".repeat(8) + "y7,0,1;");
        CHECKS.outside("21 guest", i -> eight.since(i, 0, 0), 0, 7);
    }

    // ---- 22 leave

    private static void leaveOfFew() {
        NobodyFirst x = new NobodyFirst();
        due("22 of two", x.leave(2, 0, 0) * 10 + x.leave(2, 0, 1), 10);
        int[][] three = {{NONE, 2, 1}, {1, 0, NONE}, {2, NONE, 0}};
        int[][] four = {{3, 2, 1, 0}, {1, 0, 3, 2}, {2, 3, 0, 1}};
        for (int r = 0; r < 3; r++) {
            for (int i = 0; i < 3; i++) due("22 of three " + r + "," + i, x.leave(3, r, i), three[r][i]);
            for (int i = 0; i < 4; i++) due("22 of four " + r + "," + i, x.leave(4, r, i), four[r][i]);
        }
    }

    private static void leaveOfMany() {
        NobodyFirst x = new NobodyFirst();
        int[][] due = {
            {19, 0, 0, NONE}, {19, 0, 1, 18}, {19, 0, 18, 1}, {19, 18, 0, 18}, {19, 18, 9, NONE}, {19, 18, 18, 0},
            {19, 17, 18, NONE}, {19, 1, 18, 2}, {20, 0, 0, 19}, {20, 0, 1, 18}, {20, 0, 18, 1}, {20, 0, 19, 0},
            {20, 1, 19, 10}, {20, 1, 10, 19}, {20, 17, 19, 18}, {20, 17, 18, 19}, {20, 18, 9, 19}, {20, 18, 19, 9},
            {20, 18, 0, 18}, {20, 18, 18, 0}
        };
        for (int[] d : due) due("22 leave " + d[0] + "," + d[1] + "," + d[2], x.leave(d[0], d[1], d[2]), d[3]);
    }

    private static void leaveOutside() {
        NobodyFirst x = new NobodyFirst();
        CHECKS.outside("22 n", n -> x.leave(n, 0, 0), 2, 20);
        for (int n = 2; n <= 20; n++) {
            NobodyFirst y = new NobodyFirst();
            int many = n;
            CHECKS.outside("22 r of " + n, r -> y.leave(many, r, 0), 0, n % 2 == 1 ? n - 1 : n - 2);
            CHECKS.outside("22 i of " + n, i -> y.leave(many, 0, i), 0, n - 1);
        }
        due("22 of one", x.leave(1, 0, 0), BAD);
        due("22 of 21", x.leave(21, 0, 0), BAD);
    }

    // ---- 23 drawn

    private static int tenth(int z, int i, int k) {
        BigInteger x = BigInteger.valueOf(7919L * z + 6151L * i + 3571L * k + 1);
        return x.multiply(x).mod(BigInteger.valueOf(65521)).mod(BigInteger.TEN).intValue();
    }

    /** A draw by which the number that decides for a guest and a sign is just this one. */
    private static int drawOf(int from, int i, int k, int tenth) {
        for (int z = from; z <= 9999; z++) if (tenth(z, i, k) == tenth) return z;
        throw new IllegalStateException("no such draw");
    }

    private static void drawnByTheSixth() {
        NobodyFirst x = laid("g0,100,50,0;l0,0;b100;s0,50;");
        for (int tenth = 0; tenth <= 9; tenth++) {
            for (int from : new int[] {0, 9900}) {
                int z = drawOf(from, 0, 0, tenth);
                due("23 drawn by " + tenth, x.drawn(z, 0), tenth < 6 ? 100 : 150);
                due("23 drawn by " + tenth, x.drawn(z, 1), tenth < 6 ? 0 : 100);
            }
        }
        due("23 the first draw is by 1", x.drawn(0, 0), 100);
    }

    private static void drawnByHugeNumbers() {
        NobodyFirst x = laid("g0,0,0,3;".repeat(7) + "g1,100,99,0;l0,0;b0;" + "s0,1;s0,2;s0,4;s0,8;s0,16;s0,32;");
        for (int z : new int[] {0, 1, 5000, 9998, 9999}) {
            int shame = 99;
            for (int k = 0; k < 6; k++) if (tenth(z, 7, k) < 6) shame -= 1 << k;
            due("23 the eighth guest and six signs by " + z, x.drawn(z, 0), 100 + shame);
            due("23 the eighth guest and six signs by " + z, x.drawn(z, 1), shame + 100 + shame);
        }
    }

    private static void drawnForWhom() {
        NobodyFirst none = laid("g0,100,50,0;l0,0;b100;");
        due("23 without signs", none.drawn(9999, 0), none.when(0, 1));
        due("23 without signs", none.drawn(9999, 1), none.wasted(-2));
        NobodyFirst deaf = laid("g0,100,50,2;l0,0;b100;s0,50;");
        due("23 a deaf one", deaf.drawn(0, 0), 150);
        NobodyFirst told = laid("g0,100,50,0;l0,0;b100;");
        told.sign(0, 1);
        told.sign(0, 2);
        for (int z : new int[] {0, 1, 2, 3, 4, 5, 6, 7, 9999}) {
            int shame = 50 - (tenth(z, 0, 0) < 6 ? 1 : 0) - (tenth(z, 0, 1) < 6 ? 2 : 0);
            due("23 signs told later are numbered on, " + z, told.drawn(z, 0), 100 + shame);
        }
    }

    private static void drawnOutside() {
        NobodyFirst x = new NobodyFirst();
        CHECKS.outside("23 draw", z -> x.drawn(z, 0), 0, 9999);
        CHECKS.outside("23 what", what -> x.drawn(0, what), 0, 1);
    }
}
