import java.util.Random;

/** Random runs of calls, of at most 512 each, held against the plain model. */
public final class ModelTest {
    private static int lays, laysTaken;

    private final Random random;
    private NobodyFirst program;
    private PlainModel model;
    private String text = "";
    private int calls;
    private int dear;
    private final int run;

    private ModelTest(int run) {
        this.run = run;
        this.random = new Random(run);
    }

    public static void main(String[] args) {
        int runs = args.length > 1 ? Integer.parseInt(args[1]) : 300;
        Checks sum = new Checks();
        for (int run = 1; run <= runs; run++) {
            new ModelTest(run).go(sum);
        }
        System.out.println(laysTaken + " of " + lays + " texts were laid");
        sum.due("texts laid are at least half of all: ", 2 * laysTaken >= lays ? 1 : 0, 1);
        sum.end();
    }

    private void go(Checks sum) {
        program = new NobodyFirst();
        model = new PlainModel();
        dear = 0;
        // One step writes, reads and lays a text in at most 70 calls, so that 512 are never passed.
        for (int steps = 0; steps < 512 && calls < 440; steps++) {
            step(sum);
        }
    }

    private int upTo(int most) {
        return random.nextInt(most + 1);
    }

    /** Mostly of the range, at times just out of it or far away. */
    private int near(int least, int most) {
        switch (random.nextInt(24)) {
            case 0: return least - 1;
            case 1: return most + 1;
            case 2: return random.nextInt(8) == 0 ? random.nextInt() : least;
            case 3: return most;
            case 4: return least;
            default: return least + random.nextInt(most - least + 1);
        }
    }

    private int guestNumber() {
        return random.nextInt(30) == 0 ? near(0, 7) : near(0, Math.max(model.count(0) - 1, 0));
    }

    private void due(Checks sum, String call, int got, int want) {
        calls++;
        sum.due("run " + run + " call " + calls + " " + call + " [" + text + "]", got, want);
    }

    private String randomItem(int guests) {
        boolean wild = random.nextInt(150) == 0;
        int out = wild ? random.nextInt(3) + 1 : 0;
        int minutes = random.nextInt(3) == 0 ? 359 : 150;
        switch (random.nextInt(9)) {
            case 0:
            case 1: return "g" + (upTo(3) + out) + "," + upTo(minutes) + "," + upTo(199) + "," + upTo(5 + out) + ";";
            case 2: return "s" + upTo(minutes) + "," + (1 + upTo(random.nextBoolean() ? 20 : 98) - (wild ? 1 : 0)) + ";";
            case 3: return "w" + upTo(minutes + (wild ? 60 : 0)) + ";";
            case 4: return "l" + upTo(random.nextBoolean() ? 10 : 99) + "," + upTo(60 + out) + ";";
            case 5: return "b" + upTo(359 + out) + ";";
            case 6: return "c" + (1 + upTo(98 + out)) + "," + upTo(random.nextBoolean() ? 9 : 999) + ";";
            case 7: return "u" + (1 + upTo(2 + out)) + "," + upTo(99) + "," + upTo(random.nextBoolean() ? 9 : 99) + ";";
            default: return "y" + upTo(Math.max(guests - 1 + out, 0)) + "," + upTo(359) + "," + upTo(1 + out) + ";";
        }
    }

    private String randomText() {
        StringBuilder out = new StringBuilder();
        int guests = 1 + upTo(7);
        if (random.nextInt(20) != 0) {
            int kinds = random.nextInt(3) == 0 ? 0 : 5;
            for (int i = 0; i < guests; i++) {
                int w = random.nextBoolean() ? upTo(359) : 100 + upTo(150);
                int s = random.nextBoolean() ? upTo(199) : upTo(60);
                out.append('g').append(upTo(3)).append(',').append(w).append(',').append(s);
                out.append(',').append(upTo(kinds)).append(';');
            }
        }
        int items = upTo(12);
        for (int k = 0; k < items; k++) {
            String item = randomItem(guests);
            boolean oneTooMany = item.charAt(0) == 'g' && guests >= 8
                || "swcy".indexOf(item.charAt(0)) >= 0 && many(out, item.charAt(0)) >= 3;
            if (!oneTooMany || random.nextInt(30) == 0) out.append(item);
            if (item.charAt(0) == 'g') guests++;
        }
        if (random.nextInt(6) == 0 && out.length() > 0) {
            spoil(out);
        }
        return out.toString();
    }

    private static int many(CharSequence in, char letter) {
        int n = 0;
        for (int k = 0; k < in.length(); k++) if (in.charAt(k) == letter) n++;
        return n;
    }

    private void spoil(StringBuilder out) {
        int at = random.nextInt(out.length());
        switch (random.nextInt(4)) {
            case 0: out.deleteCharAt(at); break;
            case 1: out.insert(at, "0;,g9sA ".charAt(random.nextInt(8))); break;
            case 2: out.setCharAt(at, (char) random.nextInt(256)); break;
            default: out.setLength(at); break;
        }
    }

    private void writeAll(Checks sum, String what) {
        for (int at = 0; at < what.length(); ) {
            int n = Math.min(random.nextInt(9) == 0 ? 1 + upTo(7) : 8, what.length() - at);
            // What stands above the n bytes must not matter.
            long v = random.nextLong();
            for (int k = 0; k < n; k++) v = put(v, what.charAt(at + k), n - 1 - k);
            due(sum, "write(" + n + "," + v + ")", program.write(n, v), model.write(n, v));
            at += n;
        }
    }

    private static long put(long v, char c, int place) {
        return v & ~(255L << (8 * place)) | (long) (c & 255) << (8 * place);
    }

    private void step(Checks sum) {
        int choice = random.nextInt(100);
        if (choice < 4 || calls == 0) {
            if (random.nextInt(12) != 0) due(sum, "wipe", program.wipe(), model.wipe());
            text = randomText();
            writeAll(sum, text);
            due(sum, "fault", program.fault(), model.fault());
            int answer = model.lay();
            due(sum, "lay", program.lay(), answer);
            lays++;
            if (answer > 0) laysTaken++;
            return;
        }
        if (choice < 6) {
            int n = near(1, 8);
            long v = random.nextLong();
            due(sum, "write(" + n + ")", program.write(n, v), model.write(n, v));
            return;
        }
        if (choice < 60) {
            evening(sum);
        } else if (choice < 80) {
            signs(sum);
        } else {
            rest(sum);
        }
    }

    private void evening(Checks sum) {
        int i = guestNumber();
        int t = near(0, random.nextBoolean() ? 719 : 359);
        int what = near(0, 1);
        switch (random.nextInt(12)) {
            case 0: due(sum, "guest", program.guest(i, what = near(0, 3)), model.guest(i, what)); break;
            case 1: case 2: due(sum, "shame " + i + "," + t, program.shame(i, t), model.shame(i, t)); break;
            case 3: case 4: due(sum, "presses " + i + "," + t, program.presses(i, t), model.presses(i, t)); break;
            case 5: t = near(0, 999); due(sum, "is " + i + "," + t, program.is(i, t), model.is(i, t)); break;
            case 6: case 7: due(sum, "when " + i + "," + what, program.when(i, what), model.when(i, what)); break;
            case 8: i = near(-2, model.count(0) - 1); due(sum, "wasted " + i, program.wasted(i), model.wasted(i)); break;
            case 9: due(sum, "frees " + i + "," + t, program.frees(i, t), model.frees(i, t)); break;
            case 10: due(sum, "bell " + t, program.bell(t), model.bell(t)); break;
            default: t = near(0, 9999); due(sum, "drawn " + t, program.drawn(t, what), model.drawn(t, what)); break;
        }
    }

    private void signs(Checks sum) {
        int m = near(0, 359);
        int v = near(1, 99);
        switch (random.nextInt(9)) {
            case 0: case 1: due(sum, "sign " + m + "," + v, program.sign(m, v), model.sign(m, v)); break;
            case 2: case 3: due(sum, "say " + m, program.say(m), model.say(m)); break;
            case 4: due(sum, "takeBack", program.takeBack(), model.takeBack()); break;
            case 5: due(sum, "keep", program.keep(), model.keep()); break;
            case 6: due(sum, "back", program.back(), model.back()); break;
            default: v = near(0, 8); due(sum, "count " + v, program.count(v), model.count(v)); break;
        }
    }

    private void rest(Checks sum) {
        int i = guestNumber();
        int what = near(0, 1);
        int n;
        switch (random.nextInt(10)) {
            case 0:
                if (dear++ < 3) due(sum, "madeUp " + i, program.madeUp(i, what), model.madeUp(i, what));
                break;
            case 1:
                if (dear++ < 3) due(sum, "best " + what, program.best(what), model.best(what));
                break;
            case 2:
                if (model.count(4) < 3 && dear++ < 3 || run % 20 == 0 && dear++ < 4) {
                    i = near(-1, model.count(4) - 1);
                    due(sum, "given " + i, program.given(i), model.given(i));
                }
                break;
            case 3: case 4:
                int x = 0;
                for (int k = 0; k < 5; k++) x = 10 * x + (k == 0 || random.nextInt(40) == 0 ? upTo(9) : upTo(5));
                if (random.nextInt(20) == 0) x = near(0, 99999);
                i = near(0, model.count(1) - 1);
                due(sum, "cost " + i + "," + x, program.cost(i, x), model.cost(i, x));
                break;
            case 5:
                i = near(-1, model.count(1) - 1);
                due(sum, "rests " + i, program.rests(i), model.rests(i));
                break;
            case 6: due(sum, "price", program.price(), model.price()); break;
            case 7: n = near(1, 3); due(sum, "meant " + n, program.meant(n, what), model.meant(n, what)); break;
            case 8: n = near(0, 11); due(sum, "since " + i + "," + n, program.since(i, n, what), model.since(i, n, what)); break;
            default:
                n = near(2, 20);
                int r = near(0, Math.max(Math.min(n, 20), 1));
                i = near(0, Math.max(Math.min(n, 20), 1));
                due(sum, "leave " + n + "," + r + "," + i, program.leave(n, r, i), model.leave(n, r, i));
                break;
        }
    }
}
