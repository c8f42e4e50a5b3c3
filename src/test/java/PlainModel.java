import java.util.ArrayList;
import java.util.HashMap;
import java.util.List;
import java.util.Map;
import java.util.regex.Matcher;
import java.util.regex.Pattern;

/**
 * The document once more, minute by minute and as slow as its words, to be held against the program.
 * It shares no code and, where there was a choice, no way of reckoning with it.
 */
final class PlainModel {
    static final int BAD = -1, NO = -2, FULL = -3, NONE = -4;

    static final class Laid {
        List<int[]> guests = new ArrayList<>();
        List<int[]> signs = new ArrayList<>();
        List<Integer> words = new ArrayList<>();
        int l = 15, h = 20, b = 240;
        List<int[]> offers = new ArrayList<>();
        Map<Integer, int[]> customs = new HashMap<>();
        List<int[]> looks = new ArrayList<>();
    }

    /** How an evening went: minutes of standing and going by guests. */
    static final class Course {
        int[] stand, go;
    }

    interface Hears {
        boolean hears(int sign, int guest);
    }

    private final StringBuilder text = new StringBuilder();
    private Laid laid = new Laid();
    private final List<Object[]> undo = new ArrayList<>();
    private final List<Object[]> kept = new ArrayList<>();

    PlainModel() {
        laid.guests.add(new int[] {0, 200, 30, 0});
        laid.guests.add(new int[] {1, 210, 40, 0});
    }

    // ---- the text

    int write(int n, long v) {
        if (n < 1 || n > 8) return BAD;
        if (text.length() + n > 400) return FULL;
        StringBuilder bytes = new StringBuilder();
        for (int k = 0; k < n; k++) {
            bytes.insert(0, (char) (v & 255));
            v >>>= 8;
        }
        return text.append(bytes).length();
    }

    int wipe() {
        int was = text.length();
        text.setLength(0);
        return was;
    }

    private static final Pattern ITEM = Pattern.compile("([a-z])([0-9]{1,3}(?:,[0-9]{1,3})*);");

    /** Reads the text: the fault, or NONE and all that is told in the party. */
    private int read(Laid into) {
        int at = 0;
        Matcher m = ITEM.matcher(text);
        while (at < text.length()) {
            if (!m.find(at) || m.start() != at) return at;
            String[] parts = m.group(2).split(",");
            int[] f = new int[parts.length];
            for (int k = 0; k < f.length; k++) f[k] = Integer.parseInt(parts[k]);
            if (!take(into, m.group(1).charAt(0), f)) return at;
            at = m.end();
        }
        return NONE;
    }

    private static boolean in(int x, int a, int b) {
        return a <= x && x <= b;
    }

    private static boolean take(Laid p, char letter, int[] f) {
        int n = f.length;
        if (letter == 'g' && n == 4 && f[0] <= 3 && f[1] <= 359 && f[2] <= 199 && f[3] <= 5 && p.guests.size() < 8) {
            return p.guests.add(f);
        }
        if (letter == 's' && n == 2 && f[0] <= 359 && in(f[1], 1, 99) && p.signs.size() < 6) return p.signs.add(f);
        if (letter == 'w' && n == 1 && f[0] <= 359 && p.words.size() < 4) return p.words.add(f[0]);
        if (letter == 'l' && n == 2 && f[0] <= 99 && f[1] <= 60) {
            p.l = f[0];
            p.h = f[1];
            return true;
        }
        if (letter == 'b' && n == 1 && f[0] <= 359) {
            p.b = f[0];
            return true;
        }
        if (letter == 'c' && n == 2 && in(f[0], 1, 99) && p.offers.size() < 3) return p.offers.add(f);
        if (letter == 'u' && n == 3 && in(f[0], 1, 3) && f[1] <= 99 && f[2] <= 99) {
            p.customs.put(f[0], f);
            return true;
        }
        if (letter == 'y' && n == 3 && f[0] < p.guests.size() && f[1] <= 359 && f[2] <= 1 && p.looks.size() < 6) {
            return p.looks.add(f);
        }
        return false;
    }

    int fault() {
        return read(new Laid());
    }

    int lay() {
        Laid fresh = new Laid();
        if (read(fresh) != NONE || fresh.guests.isEmpty()) return NO;
        laid = fresh;
        undo.clear();
        kept.clear();
        return laid.guests.size();
    }

    private boolean bad(int i) {
        return i < 0 || i >= laid.guests.size();
    }

    int guest(int i, int what) {
        return bad(i) || !in(what, 0, 3) ? BAD : laid.guests.get(i)[what];
    }

    // ---- the evening, minute by minute

    private int shameIn(Laid p, Hears hears, int[] stand, int i, int t) {
        int[] g = p.guests.get(i);
        int shame = g[2];
        for (int k = 0; k < p.signs.size(); k++) {
            if (g[3] != 2 && p.signs.get(k)[0] <= t && hears.hears(k, i)) shame -= p.signs.get(k)[1];
        }
        for (int s : stand) if (s < t) shame -= p.l;
        if (shame < 0) shame = 0;
        if (g[3] == 1) for (int w : p.words) if (w <= t) shame += 10;
        return shame;
    }

    private boolean pressesIn(Laid p, Hears hears, int[] stand, int i, int t) {
        int[] g = p.guests.get(i);
        boolean plainly = t >= g[1] + shameIn(p, hears, stand, i, t);
        switch (g[3]) {
            case 3:
                return t >= g[1];
            case 4:
                for (int j = 0; j < stand.length; j++) {
                    if (p.guests.get(j)[0] != g[0] && stand[j] >= t) return false;
                }
                return plainly;
            case 5:
                boolean any = false;
                for (int s : stand) any |= s < t;
                return plainly || t >= g[1] && any;
            default:
                return plainly;
        }
    }

    private Course evening(Laid p, Hears hears, int bell) {
        int n = p.guests.size();
        Course c = new Course();
        c.stand = new int[n];
        c.go = new int[n];
        java.util.Arrays.fill(c.stand, 5000);
        java.util.Arrays.fill(c.go, 5000);
        int lastStood = -5000;
        for (int t = 0; t < 1000; t++) {
            int[] ahead = c.stand.clone();
            for (int pair = 0; pair < 4; pair++) {
                boolean all = true, bus = false, any = false;
                for (int i = 0; i < n; i++) {
                    if (p.guests.get(i)[0] != pair || ahead[i] < t) continue;
                    any = true;
                    boolean presses = pressesIn(p, hears, ahead, i, t);
                    all &= presses;
                    bus |= presses && p.guests.get(i)[3] == 3;
                }
                if (any && (all || bus || t == bell || t == 719)) {
                    for (int i = 0; i < n; i++) if (p.guests.get(i)[0] == pair) c.stand[i] = t;
                    lastStood = t;
                }
            }
            if (t - lastStood >= p.h) {
                for (int i = 0; i < n; i++) if (c.stand[i] <= t && c.go[i] > t) c.go[i] = t;
            }
        }
        return c;
    }

    private static final Hears EACH = (k, i) -> true;

    private int all(Laid wasting, Course c) {
        int sum = 0, last = 0;
        for (int i = 0; i < c.go.length; i++) {
            sum += Math.abs(c.go[i] - wasting.guests.get(i)[1]);
            last = Math.max(last, c.go[i]);
        }
        return sum + Math.abs(last - wasting.b);
    }

    private Course plain() {
        return evening(laid, EACH, -1);
    }

    int shame(int i, int t) {
        return bad(i) || !in(t, 0, 719) ? BAD : shameIn(laid, EACH, plain().stand, i, t);
    }

    int presses(int i, int t) {
        if (bad(i) || !in(t, 0, 719)) return BAD;
        return pressesIn(laid, EACH, plain().stand, i, t) ? 1 : 0;
    }

    int is(int i, int t) {
        if (bad(i) || !in(t, 0, 999)) return BAD;
        Course c = plain();
        return t >= c.go[i] ? 2 : t >= c.stand[i] ? 1 : 0;
    }

    int when(int i, int what) {
        if (bad(i) || !in(what, 0, 1)) return BAD;
        return what == 0 ? plain().stand[i] : plain().go[i];
    }

    int wasted(int i) {
        if (i < -2 || i >= laid.guests.size()) return BAD;
        Course c = plain();
        if (i == -2) return all(laid, c);
        if (i >= 0) return Math.abs(c.go[i] - laid.guests.get(i)[1]);
        int last = 0;
        for (int g : c.go) last = Math.max(last, g);
        return Math.abs(last - laid.b);
    }

    // ---- what frees

    private Laid copy() {
        Laid p = new Laid();
        p.guests.addAll(laid.guests);
        p.signs.addAll(laid.signs);
        p.words.addAll(laid.words);
        p.l = laid.l;
        p.h = laid.h;
        p.b = laid.b;
        return p;
    }

    int frees(int i, int m) {
        if (bad(i) || !in(m, 0, 359)) return BAD;
        Laid p = copy();
        int[] g = p.guests.get(i);
        p.guests.set(i, new int[] {g[0], m, g[2], 3});
        return 100000 + all(laid, plain()) - all(laid, evening(p, EACH, -1));
    }

    int madeUp(int i, int what) {
        if (bad(i) || !in(what, 0, 1)) return BAD;
        int most = 100000, at = NONE;
        for (int m = 350; m >= 0; m -= 10) {
            int f = frees(i, m);
            if (f > most || f == most && at != NONE) {
                most = f;
                at = m;
            }
        }
        return at == NONE ? NONE : what == 0 ? at : most;
    }

    int bell(int m) {
        return in(m, 0, 719) ? all(laid, evening(laid, EACH, m)) : BAD;
    }

    int best(int what) {
        if (!in(what, 0, 1)) return BAD;
        int least = Integer.MAX_VALUE, at = 0;
        for (int m = 350; m >= 0; m -= 10) {
            if (bell(m) <= least) {
                least = bell(m);
                at = m;
            }
        }
        return what == 0 ? at : least;
    }

    private int bestSum;
    private int[] bestWay;

    private void ways(Laid p, int[] way, int k, int paid) {
        if (k == way.length) {
            int sum = paid + all(laid, evening(p, EACH, -1));
            if (sum < bestSum) {
                bestSum = sum;
                bestWay = way.clone();
            }
            return;
        }
        way[k] = NONE;
        ways(p, way, k + 1, paid);
        for (int m = 0; m <= 330; m += 30) {
            way[k] = m;
            p.signs.add(new int[] {m, laid.offers.get(k)[0]});
            ways(p, way, k + 1, paid + laid.offers.get(k)[1]);
            p.signs.remove(p.signs.size() - 1);
        }
    }

    int given(int i) {
        if (i < -1 || i >= laid.offers.size()) return BAD;
        bestSum = Integer.MAX_VALUE;
        ways(copy(), new int[laid.offers.size()], 0, 0);
        return i == -1 ? bestSum : bestWay[i];
    }

    // ---- who is first

    private List<int[]> pairs() {
        List<int[]> out = new ArrayList<>();
        for (int pair = 0; pair < 4; pair++) {
            int w = -1, s = -1;
            for (int[] g : laid.guests) {
                if (g[0] == pair) {
                    w = Math.max(w, g[1]);
                    s = Math.max(s, g[2]);
                }
            }
            if (w >= 0) out.add(new int[] {w, s});
        }
        return out;
    }

    private int costOf(List<int[]> pairs, int[] slots, int i) {
        int earliestOther = 99;
        for (int j = 0; j < slots.length; j++) if (j != i) earliestOther = Math.min(earliestOther, slots[j]);
        int far = Math.abs(180 + 30 * slots[i] - pairs.get(i)[0]);
        return slots[i] < earliestOther ? far + pairs.get(i)[1] : far;
    }

    int cost(int i, int x) {
        List<int[]> pairs = pairs();
        if (i < 0 || i >= pairs.size() || !in(x, 0, 99999)) return BAD;
        String figures = new StringBuilder(String.format("%05d", x)).reverse().toString();
        int[] slots = new int[pairs.size()];
        for (int j = 0; j < slots.length; j++) {
            slots[j] = figures.charAt(j) - '0';
            if (slots[j] > 5) return BAD;
        }
        return costOf(pairs, slots, i);
    }

    private int restsCounted, restSum, anySum;
    private int[] restFirst;

    private void choices(List<int[]> pairs, int[] slots, int k) {
        if (k < slots.length) {
            for (int x = 0; x < 6; x++) {
                slots[k] = x;
                choices(pairs, slots, k + 1);
            }
            return;
        }
        int sum = 0;
        boolean rest = true;
        for (int i = 0; i < slots.length; i++) {
            int now = costOf(pairs, slots, i);
            sum += now;
            for (int x = 0; x < 6; x++) {
                int[] moved = slots.clone();
                moved[i] = x;
                rest &= costOf(pairs, moved, i) >= now;
            }
        }
        anySum = Math.min(anySum, sum);
        if (rest) {
            if (restFirst == null) restFirst = slots.clone();
            restsCounted++;
            restSum = Math.min(restSum, sum);
        }
    }

    private void play() {
        restsCounted = 0;
        restSum = anySum = Integer.MAX_VALUE;
        restFirst = null;
        List<int[]> pairs = pairs();
        choices(pairs, new int[pairs.size()], 0);
    }

    int rests(int i) {
        if (i < -1 || i >= pairs().size()) return BAD;
        play();
        return i == -1 ? restsCounted : restFirst == null ? NONE : restFirst[i];
    }

    int price() {
        play();
        return restFirst == null ? NONE : restSum - anySum;
    }

    // ---- words, looks, leave

    private static int part(long above, long below, int part) {
        if (below == 0) return NONE;
        for (long d = above == 0 ? below : above; d > 1; d--) {
            if (above % d == 0 && below % d == 0) {
                above /= d;
                below /= d;
                break;
            }
        }
        return (int) (part == 0 ? above : below);
    }

    int meant(int n, int part) {
        if (!in(n, 1, 3) || !in(part, 0, 1)) return BAD;
        int[] f = laid.customs.getOrDefault(n, new int[3]);
        return part(f[1], f[1] + f[2], part);
    }

    int since(int i, int w, int part) {
        if (bad(i) || !in(w, 0, 11) || !in(part, 0, 1)) return BAD;
        long[] weight = new long[12];
        long sum = 0;
        for (int k = 0; k < 12; k++) {
            weight[k] = 1;
            for (int[] y : laid.looks) {
                if (y[0] != i) continue;
                boolean ahead = y[1] < 30 * k;
                weight[k] *= y[2] == 1 ? (ahead ? 0 : 3) : (ahead ? 10 : 7);
            }
            sum += weight[k];
        }
        return part(weight[w], sum, part);
    }

    int leave(int n, int r, int i) {
        if (!in(n, 2, 20) || r < 0 || i < 0 || i >= n) return BAD;
        int mod = n % 2 == 1 ? n : n - 1;
        if (r >= mod) return BAD;
        // i and j belong together in round r, if i + j is r by the modulus.
        for (int j = 0; j < mod; j++) {
            if (i < mod && (i + j) % mod == r) return j != i ? j : n == mod ? NONE : n - 1;
            if (i >= mod && 2 * j % mod == r) return j;
        }
        throw new IllegalStateException();
    }

    int drawn(int z, int what) {
        if (!in(z, 0, 9999) || !in(what, 0, 1)) return BAD;
        Course c = evening(laid, (k, i) -> {
            long x = 7919L * z + 6151L * i + 3571L * k + 1;
            return ((x * x) % 65521) % 10 < 6;
        }, -1);
        int last = 0;
        for (int g : c.go) last = Math.max(last, g);
        return what == 0 ? last : all(laid, c);
    }

    // ---- signs

    private Object[] snapshot() {
        return new Object[] {new ArrayList<>(laid.signs), new ArrayList<>(laid.words)};
    }

    @SuppressWarnings("unchecked")
    private void restore(Object[] shot) {
        laid.signs = new ArrayList<>((List<int[]>) shot[0]);
        laid.words = new ArrayList<>((List<Integer>) shot[1]);
    }

    private void remember() {
        undo.add(snapshot());
        if (undo.size() > 8) undo.remove(0);
    }

    int sign(int m, int v) {
        if (!in(m, 0, 359) || !in(v, 1, 99)) return BAD;
        if (laid.signs.size() == 6) return FULL;
        remember();
        laid.signs.add(new int[] {m, v});
        return laid.signs.size();
    }

    int say(int m) {
        if (!in(m, 0, 359)) return BAD;
        if (laid.words.size() == 4) return FULL;
        remember();
        laid.words.add(m);
        return laid.words.size();
    }

    int takeBack() {
        if (undo.isEmpty()) return NO;
        restore(undo.remove(undo.size() - 1));
        return undo.size();
    }

    int keep() {
        if (kept.size() == 2) return FULL;
        kept.add(snapshot());
        return kept.size();
    }

    int back() {
        if (kept.isEmpty()) return NO;
        restore(kept.remove(kept.size() - 1));
        undo.clear();
        return kept.size();
    }

    int count(int what) {
        switch (what) {
            case 0: return laid.guests.size();
            case 1: return pairs().size();
            case 2: return laid.signs.size();
            case 3: return laid.words.size();
            case 4: return laid.offers.size();
            case 5: return laid.looks.size();
            case 6: return undo.size();
            case 7: return kept.size();
            case 8: return text.length();
            default: return BAD;
        }
    }
}
