import java.util.ArrayList;
import java.util.List;
import java.util.function.Consumer;
import java.util.function.ToIntFunction;

/**
 * Nothing changes by a call that is refused, nor by one that only asks: of two objects with the same calls one has
 * one call more, and all that can be asked of both is the same.
 */
public final class RefusedTest {
    private static final int BAD = -1, NO = -2, FULL = -3, NONE = -4;
    private static final int LEAST = Integer.MIN_VALUE, MOST = Integer.MAX_VALUE;
    private static final int ANY = 1000000000;
    private static final Checks CHECKS = new Checks();

    private record Call(String name, ToIntFunction<NobodyFirst> asked, int due) { }

    /** The first guest is polite and of so much shame that each sign and each word can be seen by it. */
    private static final String SOME = "g0,100,199,1;g0,120,40,0;g2,90,80,5;s50,10;w60;c20,5;c30,9;u1,6,3;y1,40,0;y2,70,1;l3,12;b150;";
    private static final String MANY = "g0,100,199,1;g1,120,40,1;g2,90,80,2;g3,110,20,3;g0,100,60,4;g1,120,40,5;g2,90,80,0;g3,110,20,0;"
        + "c20,5;c30,9;c40,60;u1,6,3;u2,1,1;u3,9,0;" + "y1,40,0;".repeat(5) + "y7,70,1;l1,12;b150;";

    public static void main(String[] args) {
        everywhere("a new object", x -> { }, 2, 2, 0);
        refusedAtFirst();
        Consumer<NobodyFirst> some = x -> layAnd(x, SOME, "g0,1,1,1;g7");
        everywhere("some", some, 3, 2, 2);
        refused("some", some, new Call("lay of a fault", NobodyFirst::lay, NO));
        Consumer<NobodyFirst> guestless = x -> {
            layAnd(x, SOME, "");
            x.wipe();
            Checks.writeText(x, "s9,9;w9;l1,1;b1;c1,1;u1,1,1;");
        };
        refused("no guest in the text", guestless, new Call("lay without a guest", NobodyFirst::lay, NO));
        Consumer<NobodyFirst> wiped = x -> {
            layAnd(x, SOME, "");
            x.wipe();
        };
        refused("an empty text", wiped, new Call("lay of nothing", NobodyFirst::lay, NO));
        refused("an empty text", wiped, new Call("wipe of nothing", NobodyFirst::wipe, 0));
        Consumer<NobodyFirst> told = x -> {
            x.sign(10, 5);
            x.say(20);
        };
        refused("told, not kept", told, new Call("back of nothing", NobodyFirst::back, NO));
        refusedWhenFull();
        CHECKS.end();
    }

    /** Lays a text, tells, keeps and takes back some, and writes more bytes behind. */
    private static void layAnd(NobodyFirst x, String text, String behind) {
        Checks.writeText(x, text);
        x.lay();
        x.sign(70, 7);
        x.say(80);
        x.keep();
        x.sign(30, 3);
        x.sign(31, 4);
        x.takeBack();
        Checks.writeText(x, behind);
    }

    private static void fill(NobodyFirst x) {
        Checks.writeText(x, MANY);
        x.lay();
        x.sign(70, 7);
        x.keep();
        for (int k = 1; k < 6; k++) x.sign(20 * k, k);
        for (int k = 0; k < 4; k++) x.say(30 * k);
        x.keep();
        Checks.writeText(x, "b12;".repeat(100).substring(0, 400 - MANY.length()));
    }

    private static void refusedAtFirst() {
        Consumer<NobodyFirst> nothing = x -> { };
        refused("a new object", nothing, new Call("lay", NobodyFirst::lay, NO));
        refused("a new object", nothing, new Call("takeBack", NobodyFirst::takeBack, NO));
        refused("a new object", nothing, new Call("back", NobodyFirst::back, NO));
        refused("a new object", nothing, new Call("given(0)", x -> x.given(0), BAD));
        refused("a new object", nothing, new Call("meant(1, 0)", x -> x.meant(1, 0), NONE));
    }

    private static void refusedWhenFull() {
        Consumer<NobodyFirst> full = RefusedTest::fill;
        everywhere("all full", full, 8, 4, 3);
        for (int n = 1; n <= 8; n++) {
            int bytes = n;
            refused("all full", full, new Call("write of " + n, x -> x.write(bytes, 0x62313b62313b6231L), FULL));
        }
        refused("all full", full, new Call("sign", x -> x.sign(0, 99), FULL));
        refused("all full", full, new Call("say", x -> x.say(0), FULL));
        refused("all full", full, new Call("keep", NobodyFirst::keep, FULL));
        Consumer<NobodyFirst> drained = x -> {
            fill(x);
            for (int k = 0; k < 8; k++) x.takeBack();
        };
        refused("eight taken back", drained, new Call("takeBack", NobodyFirst::takeBack, NO));
        refused("eight taken back", drained, new Call("keep", NobodyFirst::keep, FULL));
        Consumer<NobodyFirst> unkept = x -> {
            fill(x);
            x.back();
            x.back();
        };
        refused("nothing kept any more", unkept, new Call("back", NobodyFirst::back, NO));
        refused("nothing kept any more", unkept, new Call("takeBack", NobodyFirst::takeBack, NO));
        for (int n = 2; n <= 8; n++) {
            int bytes = n;
            Consumer<NobodyFirst> almost = x -> {
                layAnd(x, SOME, "");
                Checks.writeText(x, "b12;".repeat(100).substring(0, 401 - bytes - SOME.length()));
            };
            refused("all but full", almost, new Call("write of " + n, x -> x.write(bytes, 0x3b3b3b3b3b3b3b3bL), FULL));
        }
    }

    /** All calls with a number outside, and all that only ask, in one state. */
    private static void everywhere(String state, Consumer<NobodyFirst> ahead, int guests, int pairs, int offers) {
        for (Call call : outside(guests, pairs, offers)) refused(state, ahead, call);
        for (Call call : asking()) refused(state, ahead, call);
    }

    private static List<Call> outside(int guests, int pairs, int offers) {
        List<Call> calls = new ArrayList<>();
        for (int n : new int[] {LEAST, -1, 0, 9, MOST}) bad(calls, "write", n, x -> x.write(n, 0x62313b62313b6231L));
        for (int i : new int[] {LEAST, -1, guests, MOST}) {
            bad(calls, "guest", i, x -> x.guest(i, 0));
            bad(calls, "shame", i, x -> x.shame(i, 0));
            bad(calls, "presses", i, x -> x.presses(i, 0));
            bad(calls, "is", i, x -> x.is(i, 0));
            bad(calls, "when", i, x -> x.when(i, 0));
            bad(calls, "frees", i, x -> x.frees(i, 0));
            bad(calls, "madeUp", i, x -> x.madeUp(i, 0));
            bad(calls, "since", i, x -> x.since(i, 0, 0));
        }
        for (int what : new int[] {-1, 2}) {
            bad(calls, "when what", what, x -> x.when(0, what));
            bad(calls, "madeUp what", what, x -> x.madeUp(0, what));
            bad(calls, "best", what, x -> x.best(what));
            bad(calls, "meant part", what, x -> x.meant(1, what));
            bad(calls, "since part", what, x -> x.since(0, 0, what));
            bad(calls, "drawn what", what, x -> x.drawn(0, what));
        }
        for (int t : new int[] {-1, 720}) {
            bad(calls, "shame at", t, x -> x.shame(0, t));
            bad(calls, "presses at", t, x -> x.presses(0, t));
            bad(calls, "bell", t, x -> x.bell(t));
        }
        for (int m : new int[] {LEAST, -1, 360, MOST}) {
            bad(calls, "frees at", m, x -> x.frees(0, m));
            bad(calls, "sign at", m, x -> x.sign(m, 1));
            bad(calls, "say at", m, x -> x.say(m));
        }
        for (int v : new int[] {LEAST, 0, 100, MOST}) bad(calls, "sign worth", v, x -> x.sign(0, v));
        for (int i : new int[] {-1, pairs}) bad(calls, "cost", i, x -> x.cost(i, 0));
        for (int f : new int[] {-1, 6, 60, 100000}) bad(calls, "cost by", f, x -> x.cost(0, f));
        for (int i : new int[] {-2, pairs}) bad(calls, "rests", i, x -> x.rests(i));
        for (int i : new int[] {-2, offers}) bad(calls, "given", i, x -> x.given(i));
        for (int i : new int[] {-3, guests}) bad(calls, "wasted", i, x -> x.wasted(i));
        for (int t : new int[] {-1, 1000}) bad(calls, "is at", t, x -> x.is(0, t));
        for (int n : new int[] {0, 4}) bad(calls, "meant", n, x -> x.meant(n, 0));
        for (int w : new int[] {-1, 12}) bad(calls, "since", w, x -> x.since(0, w, 0));
        for (int n : new int[] {1, 21}) bad(calls, "leave", n, x -> x.leave(n, 0, 0));
        for (int z : new int[] {-1, 10000}) bad(calls, "drawn", z, x -> x.drawn(z, 0));
        for (int what : new int[] {-1, 4}) bad(calls, "guest what", what, x -> x.guest(0, what));
        for (int what : new int[] {-1, 9}) bad(calls, "count", what, x -> x.count(what));
        return calls;
    }

    private static void bad(List<Call> calls, String name, int number, ToIntFunction<NobodyFirst> asked) {
        calls.add(new Call(name + " " + number, asked, BAD));
    }

    private static List<Call> asking() {
        List<Call> calls = new ArrayList<>();
        calls.add(new Call("fault", NobodyFirst::fault, ANY));
        calls.add(new Call("shame", x -> x.shame(0, 719), ANY));
        calls.add(new Call("presses", x -> x.presses(0, 0), ANY));
        calls.add(new Call("is", x -> x.is(1, 999), ANY));
        calls.add(new Call("when", x -> x.when(0, 1), ANY));
        calls.add(new Call("wasted", x -> x.wasted(-2), ANY));
        calls.add(new Call("frees", x -> x.frees(0, 0), ANY));
        calls.add(new Call("madeUp", x -> x.madeUp(0, 0), ANY));
        calls.add(new Call("bell", x -> x.bell(0), ANY));
        calls.add(new Call("best", x -> x.best(0), ANY));
        calls.add(new Call("given", x -> x.given(-1), ANY));
        calls.add(new Call("cost", x -> x.cost(1, 51), ANY));
        calls.add(new Call("rests", x -> x.rests(0), ANY));
        calls.add(new Call("price", NobodyFirst::price, ANY));
        calls.add(new Call("meant", x -> x.meant(3, 1), ANY));
        calls.add(new Call("since", x -> x.since(1, 11, 1), ANY));
        calls.add(new Call("leave", x -> x.leave(20, 18, 19), ANY));
        calls.add(new Call("drawn", x -> x.drawn(9999, 0), ANY));
        return calls;
    }

    private static void refused(String state, Consumer<NobodyFirst> ahead, Call call) {
        NobodyFirst one = new NobodyFirst();
        NobodyFirst other = new NobodyFirst();
        ahead.accept(one);
        ahead.accept(other);
        int answer = call.asked.applyAsInt(one);
        if (call.due != ANY) CHECKS.due(state + ": " + call.name, answer, call.due);
        if (call.due == ANY) CHECKS.due(state + ": " + call.name + " twice", call.asked.applyAsInt(one), answer);
        List<Integer> changed = allAnswers(one);
        List<Integer> same = allAnswers(other);
        CHECKS.due(state + ": as many answers behind " + call.name, changed.size(), same.size());
        for (int k = 0; k < Math.min(changed.size(), same.size()); k++) {
            CHECKS.due(state + ": answer " + k + " behind " + call.name, changed.get(k), same.get(k));
        }
    }

    /** All that tells one state from another; some 350 calls, so that 512 are not passed. */
    private static List<Integer> allAnswers(NobodyFirst x) {
        List<Integer> all = new ArrayList<>();
        evening(x, all);
        all.add(x.fault());
        for (int k = 0; k < 9; k++) {
            all.add(x.takeBack());
            told(x, all);
        }
        for (int k = 0; k < 3; k++) {
            all.add(x.back());
            told(x, all);
        }
        all.add(x.sign(1, 1));
        all.add(x.say(1));
        all.add(x.keep());
        all.add(x.write(4, 0x6231323bL));
        all.add(x.fault());
        all.add(x.lay());
        told(x, all);
        for (int what = 0; what < 4; what++) all.add(x.guest(0, what));
        all.add(x.wipe());
        all.add(x.fault());
        return all;
    }

    private static void evening(NobodyFirst x, List<Integer> all) {
        for (int what = 0; what <= 8; what++) all.add(x.count(what));
        for (int t = 0; t <= 120; t += 10) all.add(x.shame(0, t));
        for (int i = 0; i < x.count(0); i++) {
            for (int what = 0; what < 4; what++) all.add(x.guest(i, what));
            all.add(x.shame(i, 75));
            all.add(x.presses(i, 130));
            all.add(x.is(i, 150));
            all.add(x.when(i, 0));
            all.add(x.when(i, 1));
            all.add(x.since(i, 2, 0));
            all.add(x.since(i, 2, 1));
        }
        for (int i = -1; i < x.count(4); i++) all.add(x.given(i));
        for (int i = -1; i < x.count(1); i++) all.add(x.rests(i));
        for (int i = 0; i < x.count(1); i++) all.add(x.cost(i, 1234));
        for (int n = 1; n <= 3; n++) all.add(x.meant(n, 0) * 1000 + x.meant(n, 1));
        all.add(x.price());
        all.add(x.wasted(-1));
        all.add(x.wasted(-2));
        all.add(x.frees(0, 100));
        all.add(x.bell(100));
        all.add(x.best(0));
        all.add(x.drawn(3, 1));
    }

    private static void told(NobodyFirst x, List<Integer> all) {
        for (int what = 2; what <= 7; what++) all.add(x.count(what));
        for (int t : new int[] {45, 85, 359}) all.add(x.shame(0, t));
        all.add(x.wasted(-2));
        all.add(x.given(-1));
    }
}
