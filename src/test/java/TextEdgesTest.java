import java.util.List;

/** The edges of promises 1 to 6: each range, each number of items, the empty and the full text. */
public final class TextEdgesTest {
    private static final int BAD = -1, NO = -2, FULL = -3, NONE = -4;
    private static final Checks CHECKS = new Checks();
    private static final String GUEST = "g0,0,0,0;";
    private static final String EIGHT = GUEST.repeat(8);

    /** An item: its letter, what must stand ahead of it, the least and the most of each number. */
    private record Shape(char letter, String ahead, int[] least, int[] most) {
        String item(int[] numbers) {
            String[] words = new String[numbers.length];
            for (int k = 0; k < words.length; k++) words[k] = String.valueOf(numbers[k]);
            return item(words);
        }

        String item(String[] words) {
            return letter + String.join(",", words) + ";";
        }

        String[] words() {
            String[] words = new String[least.length];
            for (int k = 0; k < words.length; k++) words[k] = String.valueOf(least[k]);
            return words;
        }
    }

    private static final Shape[] SHAPES = {
        new Shape('g', "", new int[] {0, 0, 0, 0}, new int[] {3, 359, 199, 5}),
        new Shape('s', "", new int[] {0, 1}, new int[] {359, 99}),
        new Shape('w', "", new int[] {0}, new int[] {359}),
        new Shape('l', "", new int[] {0, 0}, new int[] {99, 60}),
        new Shape('b', "", new int[] {0}, new int[] {359}),
        new Shape('c', "", new int[] {1, 0}, new int[] {99, 999}),
        new Shape('u', "", new int[] {1, 0, 0}, new int[] {3, 99, 99}),
        new Shape('y', EIGHT, new int[] {0, 0, 0}, new int[] {7, 359, 1})
    };

    public static void main(String[] args) {
        newObject();
        writeOfEachLength();
        writeIntoAFullText();
        whatIsWritten();
        wipe();
        for (Shape shape : SHAPES) {
            ranges(shape);
            figures(shape);
            howManyNumbers(shape);
            cutOff(shape);
            eachLetter(shape);
            whatParts(shape);
        }
        howManyItems();
        withoutLimit();
        looksAtWhomThereIs();
        placesOfFaults();
        fullText();
        layNeedsAGuest();
        laysAtTheEdges();
        layOfFaults();
        lastOnes();
        guests();
        CHECKS.end();
    }

    private static void due(String call, long got, long want) {
        CHECKS.due(call, got, want);
    }

    /** A text is right, or its fault stands at a place; it is laid just if it is right and has a guest. */
    private static void reads(String what, String text, int fault) {
        NobodyFirst x = new NobodyFirst();
        Checks.writeText(x, text);
        due(what + ": fault of " + text, x.fault(), fault);
        int guests = 0;
        for (int k = 0; k < text.length(); k++) if (text.charAt(k) == 'g') guests++;
        due(what + ": lay of " + text, x.lay(), fault == NONE && guests > 0 ? guests : NO);
    }

    private static void newObject() {
        NobodyFirst x = new NobodyFirst();
        due("1 a new text is empty", x.count(8), 0);
        due("1 an empty text has no fault", x.fault(), NONE);
        due("1 an empty text is not laid", x.lay(), NO);
        due("1 nothing wiped", x.wipe(), 0);
        due("1 two guests", x.count(0), 2);
        due("1 no third", x.guest(2, 0), BAD);
        due("1 two pairs", x.count(1), 2);
        for (int what = 2; what <= 8; what++) due("1 none of " + what, x.count(what), 0);
    }

    private static void writeOfEachLength() {
        for (int n : new int[] {Integer.MIN_VALUE, -8, -1, 0, 9, 10, 16, Integer.MAX_VALUE}) {
            NobodyFirst x = new NobodyFirst();
            due("2 write of " + n, x.write(n, 0x62313b62313b6231L), BAD);
            due("2 nothing written", x.count(8), 0);
        }
        for (int n = 1; n <= 8; n++) {
            NobodyFirst x = new NobodyFirst();
            due("2 write of " + n, x.write(n, 0x62313b62313b6231L), n);
            due("2 it is as long", x.count(8), n);
            due("2 another one", x.write(n, 0), 2 * n);
        }
    }

    private static void writeIntoAFullText() {
        for (int n = 1; n <= 8; n++) {
            NobodyFirst x = new NobodyFirst();
            Checks.writeText(x, "b12;".repeat(100).substring(0, 400 - n));
            due("2 up to 400 by " + n, x.write(n, -1L), 400);
            due("2 one more", x.write(1, 0), FULL);
            due("2 eight more", x.write(8, 0), FULL);
            due("2 nothing changed", x.count(8), 400);
            NobodyFirst y = new NobodyFirst();
            Checks.writeText(y, "b12;".repeat(100).substring(0, 401 - n));
            due("2 above 400 by one, of " + n, y.write(n, -1L), FULL);
            due("2 nothing changed", y.count(8), 401 - n);
            due("2 bad ahead of full", y.write(9, 0), BAD);
            due("2 bad ahead of full", y.write(0, 0), BAD);
            int cut = (401 - n) % 4;
            due("2 what was written is all there", y.fault(), cut == 0 ? NONE : 401 - n - cut);
        }
    }

    private static void whatIsWritten() {
        NobodyFirst x = new NobodyFirst();
        due("2 the highest of eight first", x.write(8, 0x623132333b773132L), 8);
        due("2 the second item is cut off", x.fault(), 5);
        due("2 the highest of two first", x.write(2, 0x333bL), 10);
        due("2 b123;w123;", x.fault(), NONE);
        x.wipe();
        due("2 one byte", x.write(1, 0xffffffffffffff62L), 1);
        due("2 three bytes", x.write(3, 0xffffffffff31323bL), 4);
        due("2 what stands above the bytes is none of them", x.fault(), NONE);
        x.wipe();
        due("2 eight bytes of the least number", x.write(8, Long.MIN_VALUE), 8);
        due("2 the highest is 128", x.fault(), 0);
    }

    private static void wipe() {
        NobodyFirst x = new NobodyFirst();
        Checks.writeText(x, "b12;".repeat(100));
        due("3 a full text", x.wipe(), 400);
        due("3 an empty one", x.wipe(), 0);
        due("3 room for 400 again", Checks.writeText(x, "b34;".repeat(100)), 400);
        due("3 no more", x.write(1, 0), FULL);
        due("3 one byte", x.wipe() + x.write(1, 0) + x.wipe(), 402);
    }

    private static void ranges(Shape shape) {
        reads("4 the least", shape.ahead + shape.item(shape.least), NONE);
        reads("4 the most", shape.ahead + shape.item(shape.most), NONE);
        int place = shape.ahead.length();
        for (int k = 0; k < shape.least.length; k++) {
            int[] numbers = shape.least.clone();
            numbers[k] = shape.most[k];
            reads("4 the most of " + k, shape.ahead + shape.item(numbers), NONE);
            numbers[k] = shape.most[k] + 1;
            reads("4 above the most of " + k, shape.ahead + shape.item(numbers), place);
            reads("4 above the most of " + k, shape.ahead + "b0;" + shape.item(numbers) + "b0;", place + 3);
            numbers[k] = 999;
            reads("4 999 of " + k, shape.ahead + shape.item(numbers), shape.most[k] == 999 ? NONE : place);
            numbers = shape.most.clone();
            numbers[k] = shape.least[k];
            reads("4 the least of " + k, shape.ahead + shape.item(numbers), NONE);
            numbers[k] = shape.least[k] - 1;
            reads("4 below the least of " + k, shape.ahead + shape.item(numbers), place);
        }
    }

    private static void figures(Shape shape) {
        int place = shape.ahead.length();
        for (int k = 0; k < shape.least.length; k++) {
            String[] words = shape.words();
            String one = words[k];
            int[] dues = {place, NONE, NONE, NONE, place, place};
            String[] forms = {"", one, "0" + one, "00" + one, "000" + one, "0".repeat(20) + one};
            for (int f = 0; f < forms.length; f++) {
                words[k] = forms[f];
                reads("4 figures of " + k, shape.ahead + shape.item(words), dues[f]);
            }
            for (String form : new String[] {"-" + one, "+" + one, " " + one, one + " ", one + ".", "x", "a" + one}) {
                words[k] = form;
                reads("4 no figures of " + k, shape.ahead + shape.item(words), place);
            }
        }
    }

    private static void howManyNumbers(Shape shape) {
        int place = shape.ahead.length();
        String item = shape.item(shape.least);
        String body = item.substring(0, item.length() - 1);
        reads("4 a number more", shape.ahead + body + ",1;", place);
        reads("4 a part more", shape.ahead + body + ",;", place);
        reads("4 an end more", shape.ahead + body + ";;", place + item.length());
        reads("4 no number", shape.ahead + shape.letter + ";", place);
        int comma = body.lastIndexOf(',');
        if (comma > 0) reads("4 a number fewer", shape.ahead + body.substring(0, comma) + ";", place);
    }

    private static void cutOff(Shape shape) {
        String item = shape.item(shape.most);
        for (int length = 1; length < item.length(); length++) {
            String text = shape.ahead + item.substring(0, length);
            reads("4 cut off", text, shape.ahead.length());
            // What a wiped text had there must not be read on.
            NobodyFirst x = new NobodyFirst();
            Checks.writeText(x, shape.ahead + item);
            x.wipe();
            Checks.writeText(x, text);
            due("4 cut off where a longer one was: " + text, x.fault(), shape.ahead.length());
        }
    }

    /** All bytes as the letter: right is only this one, and one whose item has the same form. */
    private static void eachLetter(Shape shape) {
        String item = shape.item(shape.least);
        for (int letter = 0; letter < 256; letter++) {
            char c = (char) letter;
            // b0; and w0; have one form, and s0,1; and c1,0; are halls, too.
            boolean right = c == shape.letter || List.of("wb", "bw", "sl", "cl").contains("" + shape.letter + c);
            String text = shape.ahead + c + item.substring(1);
            NobodyFirst x = new NobodyFirst();
            Checks.writeText(x, text);
            due("4 the letter " + letter + " for " + shape.letter, x.fault(), right ? NONE : shape.ahead.length());
        }
    }

    private static void whatParts(Shape shape) {
        String item = shape.item(shape.least);
        for (int k = 1; k < item.length(); k++) {
            char was = item.charAt(k);
            if (was != ',' && was != ';') continue;
            for (int b = 0; b < 256; b++) {
                String text = shape.ahead + item.substring(0, k) + (char) b + item.substring(k + 1);
                NobodyFirst x = new NobodyFirst();
                Checks.writeText(x, text);
                due("4 the byte " + b + " at " + k + " of " + item, x.fault(), b == was ? NONE : shape.ahead.length());
            }
        }
    }

    private static void howManyItems() {
        String[] items = {GUEST, "s0,1;", "w0;", "c1,0;", "y0,0,0;"};
        int[] most = {8, 6, 4, 3, 6};
        int[] counts = {0, 2, 3, 4, 5};
        for (int k = 0; k < items.length; k++) {
            String ahead = k == 0 ? "" : GUEST;
            String full = ahead + items[k].repeat(most[k]);
            reads("4 the most of " + items[k], full, NONE);
            reads("4 one more of " + items[k], full + items[k], full.length());
            reads("4 two more of " + items[k], full + "b1;" + items[k] + items[k], full.length() + 3);
            NobodyFirst x = Checks.laid(full);
            due("29 as many of " + items[k], x.count(counts[k]), most[k]);
            Checks.writeText(x, items[k]);
            due("5 one more of " + items[k], x.lay(), NO);
            due("5 still as many of " + items[k], x.count(counts[k]), most[k]);
        }
        String all = EIGHT + "s0,1;".repeat(6) + "w0;".repeat(4) + "c1,0;".repeat(3) + "y7,0,0;".repeat(6);
        reads("4 the most of all sorts", all, NONE);
        NobodyFirst x = Checks.laid(all);
        int[] due = {8, 1, 6, 4, 3, 6, 0, 0, all.length()};
        for (int what = 0; what < due.length; what++) due("29 the most of all, " + what, x.count(what), due[what]);
    }

    private static void withoutLimit() {
        reads("4 any number of l", "l1,1;".repeat(80), NONE);
        reads("4 any number of b", "b1;".repeat(133), NONE);
        reads("4 any number of u", "u1,1,1;".repeat(57), NONE);
    }

    private static void looksAtWhomThereIs() {
        reads("4 a look without a guest", "y0,0,0;", 0);
        reads("4 a look ahead of the guest", "y0,0,0;" + GUEST, 0);
        for (int guests = 1; guests <= 8; guests++) {
            String ahead = GUEST.repeat(guests);
            reads("4 a look at the last", ahead + "y" + (guests - 1) + ",0,0;", NONE);
            reads("4 a look at one more", ahead + "y" + guests + ",0,0;", ahead.length());
            if (guests < 8) reads("4 a look at one told behind", ahead + "y" + guests + ",0,0;" + GUEST, ahead.length());
        }
    }

    private static void placesOfFaults() {
        reads("4 at the first byte", "?", 0);
        reads("4 at the last byte", "b0;?", 3);
        reads("4 the first of two", "b0;b360;w0;w360;", 3);
        reads("4 the item's first byte, not the wrong one", "b0;g0,0,0,6;", 3);
        reads("4 of an item too many, ahead of a wrong one", "w0;".repeat(5) + "w360;", 12);
        reads("4 none is taken into an item behind", "b0;w1", 3);
    }

    private static void fullText() {
        String body = "b012;".repeat(79);
        reads("4 a full text", body + "b013;", NONE);
        reads("4 its last byte is wrong", body + "b013,", 395);
        reads("4 its last byte is a letter", body + "b12;b", 399);
        NobodyFirst x = new NobodyFirst();
        Checks.writeText(x, "b012;".repeat(78) + "g3,1,2,03;");
        due("5 a full text is laid", x.count(8) * 10 + x.lay(), 4001);
        due("5 its last item", x.guest(0, 0) * 1000 + x.guest(0, 1) * 100 + x.guest(0, 2) * 10 + x.guest(0, 3), 3123);
    }

    private static void layNeedsAGuest() {
        for (String text : new String[] {"", "s0,1;", "w0;", "l0,0;", "b0;", "c1,0;", "u1,0,0;"}) {
            NobodyFirst x = new NobodyFirst();
            Checks.writeText(x, text);
            due("5 without a guest: fault of " + text, x.fault(), NONE);
            due("5 without a guest: lay of " + text, x.lay(), NO);
            due("5 the first two are still there", x.count(0) * 1000 + x.guest(1, 1), 2210);
            Checks.writeText(x, GUEST);
            due("5 with a guest behind " + text, x.lay(), 1);
        }
    }

    private static void laysAtTheEdges() {
        for (int guests = 1; guests <= 8; guests++) {
            NobodyFirst x = Checks.laid(GUEST.repeat(guests));
            due("5 so many guests", x.count(0), guests);
            due("6 the last", x.guest(guests - 1, 3), 0);
            due("6 one more", x.guest(guests, 3), BAD);
        }
        NobodyFirst x = Checks.laid(EIGHT);
        x.wipe();
        Checks.writeText(x, GUEST);
        due("5 of eight one is left", x.lay(), 1);
        due("6 the second is gone", x.guest(1, 0), BAD);
        x.wipe();
        due("5 an empty text", x.lay(), NO);
        due("5 the one stays", x.count(0), 1);
    }

    private static void layOfFaults() {
        NobodyFirst x = Checks.laid("g1,2,3,4;s5,6;w7;c8,9;u1,2,1;y0,1,1;l50,7;b8;");
        x.wipe();
        Checks.writeText(x, "g3,1,1,1;g3,1,1,1;s0,1;s0,1;w0;w0;c1,1;c1,1;u1,1,4;y1,1,0;y1,1,0;l1,1;b1;?");
        due("5 a fault behind all", x.lay(), NO);
        int[] counts = {1, 1, 1, 1, 1, 1, 0, 0, 74};
        for (int what = 0; what < counts.length; what++) due("5 nothing changed, " + what, x.count(what), counts[what]);
        for (int what = 0; what < 4; what++) due("5 the guest is as he was", x.guest(0, what), what + 1);
        due("5 the custom is as it was", x.meant(1, 0) * 10 + x.meant(1, 1), 23);
        due("5 the look is as it was", x.since(0, 1, 0) * 10 + x.since(0, 0, 1), 1);
        due("5 the hall is as it was", x.when(0, 1) - x.when(0, 0), 7);
        due("5 the end is as it was", x.wasted(-1), x.when(0, 1) - 8);
    }

    private static void lastOnes() {
        NobodyFirst x = Checks.laid("l99,60;b359;u1,99,99;u2,99,99;u3,99,99;l1,2;b3;u1,1,2;u3,0,0;g0,0,0,0;g1,0,5,0;");
        due("5 the last hall", x.when(1, 1) - x.when(1, 0), 2);
        due("5 the last draw", x.shame(1, 1), 4);
        due("5 the last end", x.wasted(-1), x.when(1, 1) - 3);
        due("5 the last custom of 1", x.meant(1, 0) * 10 + x.meant(1, 1), 13);
        due("5 the only custom of 2", x.meant(2, 0) * 10 + x.meant(2, 1), 12);
        due("5 the last custom of 3, nothing both", x.meant(3, 0), NONE);
        NobodyFirst without = Checks.laid("g0,0,0,0;g1,0,99,0;");
        due("5 a hall of 20 without", without.when(0, 1), 20);
        due("5 a draw of 15 without", without.shame(1, 1), 84);
        due("5 an end at 240 without", without.bell(0), 20 + 20 + 220);
        for (int n = 1; n <= 3; n++) due("5 no custom without", without.meant(n, 0) + without.meant(n, 1), 2 * NONE);
    }

    private static void guests() {
        NobodyFirst x = Checks.laid(EIGHT.substring(9) + "g3,359,199,5;");
        int[] most = {3, 359, 199, 5};
        for (int what = 0; what < 4; what++) {
            due("6 the least", x.guest(0, what), 0);
            due("6 the most", x.guest(7, what), most[what]);
        }
        CHECKS.outside("6 guest of", i -> x.guest(i, 0), 0, 7);
        CHECKS.outside("6 what", what -> x.guest(7, what), 0, 3);
        due("6 both bad", x.guest(8, 4), BAD);
    }
}
