import java.util.function.IntUnaryOperator;

/** Counts answers that are not due, and writes texts into objects. */
final class Checks {
    private int wrong = 0;
    private int asked = 0;

    void due(String call, long got, long want) {
        asked++;
        if (got != want) {
            wrong++;
            if (wrong <= 40) {
                System.out.println(call + " answered " + got + ", due is " + want);
            }
        }
    }

    /** The least and the most are not BAD; what is next to them outside, and far away, is. */
    void outside(String call, IntUnaryOperator asked, int least, int most) {
        for (int inside : new int[] {least, most}) {
            due(call + " " + inside + " is not bad", asked.applyAsInt(inside) == -1 ? 1 : 0, 0);
        }
        for (int bad : new int[] {least - 1, most + 1, least - 256, most + 256, Integer.MIN_VALUE, Integer.MAX_VALUE}) {
            due(call + " " + bad, asked.applyAsInt(bad), -1);
        }
    }

    void end() {
        System.out.println(asked + " answers, " + wrong + " not as due");
        if (wrong != 0) {
            System.exit(1);
        }
    }

    /** Writes a text, eight bytes a call, behind the one there is. */
    static int writeText(NobodyFirst x, String text) {
        int answer = 0;
        for (int at = 0; at < text.length(); at += 8) {
            int n = Math.min(8, text.length() - at);
            long v = 0;
            for (int k = 0; k < n; k++) {
                v = v << 8 | text.charAt(at + k) & 255;
            }
            answer = x.write(n, v);
        }
        return answer;
    }

    static NobodyFirst laid(String text) {
        NobodyFirst x = new NobodyFirst();
        writeText(x, text);
        int guests = x.lay();
        if (guests < 1) {
            throw new IllegalStateException("not laid: " + text + ", fault " + x.fault());
        }
        return x;
    }

    static int faultOf(String text) {
        NobodyFirst x = new NobodyFirst();
        writeText(x, text);
        return x.fault();
    }
}
