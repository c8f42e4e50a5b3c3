import java.util.Arrays;

/** Guests who do not go, of whom nobody will be first. */
public final class NobodyFirst {
    public static final int BAD = -1, NO = -2, FULL = -3, NONE = -4;

    private static final int MOST_BYTES = 400, MOST_AT_ONCE = 8;
    private static final int MOST_GUESTS = 8, MOST_PAIRS = 4, MOST_SIGNS = 6, MOST_WORDS = 4;
    private static final int MOST_OFFERS = 3, MOST_LOOKS = 6, MOST_SAID = 3;
    private static final int MOST_TO_TAKE_BACK = 8, MOST_KEPT = 2;

    private static final int LAST_TOLD_MINUTE = 359, LAST_SITTING_MINUTE = 719, LAST_SEEN_MINUTE = 999;
    private static final int MOST_WORTH = 99;
    // Above every minute in which anyone can stand or go.
    private static final int NEVER = 100000;

    private static final int POLITE = 1, DEAF = 2, BUS = 3, STAYER = 4, SLY = 5;

    private static final int FREES_BASE = 100000;
    private static final int TRIED_STEP = 10, LAST_TRIED = 350;
    private static final int GIVEN_STEP = 30, GIVEN_CHOICES = 13;
    private static final int SLOTS = 6, FIRST_SLOT_MINUTE = 180, SLOT_STEP = 30, MOST_FIGURES = 99999;
    private static final int SINCE_STEP = 30, SINCE_CHOICES = 12;
    private static final int FEWEST_LEAVING = 2, MOST_LEAVING = 20;
    private static final int LAST_DRAW = 9999;

    private final byte[] text = new byte[MOST_BYTES];
    private int length = 0;
    private final Reader reader = new Reader();
    private Party laid = new Party();
    private Party draft = new Party();
    private final Evening evening = new Evening();
    private final Giving giving = new Giving();
    private final Game game = new Game();
    private final History history = new History();

    public NobodyFirst() {
        laid.addGuest(0, 200, 30, 0);
        laid.addGuest(1, 210, 40, 0);
        game.gather(laid);
    }

    // ---- evenings

    public int write(int n, long v) {
        if (!within(n, 1, MOST_AT_ONCE)) {
            return BAD;
        }
        if (length + n > MOST_BYTES) {
            return FULL;
        }
        for (int k = n - 1; k >= 0; k--) {
            text[length] = (byte) (v >> (8 * k));
            length++;
        }
        return length;
    }

    public int wipe() {
        int was = length;
        length = 0;
        return was;
    }

    public int fault() {
        return reader.firstFault(text, length, draft);
    }

    public int lay() {
        if (reader.firstFault(text, length, draft) != NONE || draft.guests == 0) {
            return NO;
        }
        Party old = laid;
        laid = draft;
        draft = old;
        history.forget();
        giving.known = false;
        game.gather(laid);
        return laid.guests;
    }

    public int guest(int i, int what) {
        if (!isGuest(i)) {
            return BAD;
        }
        switch (what) {
            case 0: return laid.pair[i];
            case 1: return laid.wouldGo[i];
            case 2: return laid.ownShame[i];
            case 3: return laid.kind[i];
            default: return BAD;
        }
    }

    // ---- minutes

    public int shame(int i, int t) {
        if (!isGuest(i) || !within(t, 0, LAST_SITTING_MINUTE)) {
            return BAD;
        }
        passAsItIs();
        evening.lookAt(t);
        return evening.shameAt(i, t);
    }

    public int presses(int i, int t) {
        if (!isGuest(i) || !within(t, 0, LAST_SITTING_MINUTE)) {
            return BAD;
        }
        passAsItIs();
        evening.lookAt(t);
        return t >= evening.pressesFrom(i, t) ? 1 : 0;
    }

    public int is(int i, int t) {
        if (!isGuest(i) || !within(t, 0, LAST_SEEN_MINUTE)) {
            return BAD;
        }
        passAsItIs();
        if (t < evening.standsIn(i)) {
            return 0;
        }
        return t < evening.goesIn(i) ? 1 : 2;
    }

    public int when(int i, int what) {
        if (!isGuest(i) || !within(what, 0, 1)) {
            return BAD;
        }
        passAsItIs();
        return what == 0 ? evening.standsIn(i) : evening.goesIn(i);
    }

    public int wasted(int i) {
        if (!within(i, -2, laid.guests - 1)) {
            return BAD;
        }
        passAsItIs();
        if (i == -2) {
            return evening.wastedByAll();
        }
        return i == -1 ? evening.wastedByHost() : evening.wastedBy(i);
    }

    // ---- what frees

    public int frees(int i, int m) {
        if (!isGuest(i) || !within(m, 0, LAST_TOLD_MINUTE)) {
            return BAD;
        }
        passAsItIs();
        return FREES_BASE + evening.wastedByAll() - allWithBus(i, m);
    }

    public int madeUp(int i, int what) {
        if (!isGuest(i) || !within(what, 0, 1)) {
            return BAD;
        }
        passAsItIs();
        int asItIs = evening.wastedByAll();
        int least = asItIs;
        int at = NONE;
        for (int m = 0; m <= LAST_TRIED; m += TRIED_STEP) {
            int all = allWithBus(i, m);
            if (all < least) {
                least = all;
                at = m;
            }
        }
        if (at == NONE || what == 0) {
            return at;
        }
        return FREES_BASE + asItIs - least;
    }

    public int bell(int m) {
        if (!within(m, 0, LAST_SITTING_MINUTE)) {
            return BAD;
        }
        return allWithBell(m);
    }

    public int best(int what) {
        if (!within(what, 0, 1)) {
            return BAD;
        }
        int least = allWithBell(0);
        int at = 0;
        for (int m = TRIED_STEP; m <= LAST_TRIED; m += TRIED_STEP) {
            int all = allWithBell(m);
            if (all < least) {
                least = all;
                at = m;
            }
        }
        return what == 0 ? at : least;
    }

    public int given(int i) {
        if (!within(i, -1, laid.offers - 1)) {
            return BAD;
        }
        giving.reckon(laid, evening);
        return i == -1 ? giving.least : giving.minuteOf(i);
    }

    // ---- who is first

    public int cost(int i, int x) {
        if (!within(i, 0, game.pairs - 1) || !within(x, 0, MOST_FIGURES)) {
            return BAD;
        }
        if (!game.chooseByFigures(x)) {
            return BAD;
        }
        return game.costOf(i);
    }

    public int rests(int i) {
        if (!within(i, -1, game.pairs - 1)) {
            return BAD;
        }
        game.reckon();
        if (i == -1) {
            return game.restsFound;
        }
        return game.restsFound == 0 ? NONE : game.firstRest[i];
    }

    public int price() {
        game.reckon();
        return game.restsFound == 0 ? NONE : game.leastOfRests - game.leastOfAll;
    }

    // ---- words, looks, leave

    public int meant(int n, int part) {
        if (!within(n, 1, MOST_SAID) || !within(part, 0, 1)) {
            return BAD;
        }
        return inLowestTerms(laid.ifMeant[n], laid.ifMeant[n] + laid.ifNot[n], part);
    }

    public int since(int i, int w, int part) {
        if (!isGuest(i) || !within(w, 0, SINCE_CHOICES - 1) || !within(part, 0, 1)) {
            return BAD;
        }
        int sum = 0;
        for (int k = 0; k < SINCE_CHOICES; k++) {
            sum += laid.weightOfLooks(i, SINCE_STEP * k);
        }
        return inLowestTerms(laid.weightOfLooks(i, SINCE_STEP * w), sum, part);
    }

    public int leave(int n, int r, int i) {
        if (!within(n, FEWEST_LEAVING, MOST_LEAVING)) {
            return BAD;
        }
        int rounds = n % 2 == 0 ? n - 1 : n;
        if (!within(r, 0, rounds - 1) || !within(i, 0, n - 1)) {
            return BAD;
        }
        if (i == rounds) {
            return leftAlone(rounds, r);
        }
        int other = Math.floorMod(r - i, rounds);
        if (other != i) {
            return other;
        }
        return n == rounds ? NONE : n - 1;
    }

    public int drawn(int z, int what) {
        if (!within(z, 0, LAST_DRAW) || !within(what, 0, 1)) {
            return BAD;
        }
        evening.prepare(laid);
        evening.drawWhoHears(z);
        evening.pass();
        return what == 0 ? evening.lastGoes() : evening.wastedByAll();
    }

    // ---- signs

    public int sign(int m, int v) {
        if (!within(m, 0, LAST_TOLD_MINUTE) || !within(v, 1, MOST_WORTH)) {
            return BAD;
        }
        if (!laid.told.addSign(m, v)) {
            return FULL;
        }
        history.note(true);
        giving.known = false;
        return laid.told.signs;
    }

    public int say(int m) {
        if (!within(m, 0, LAST_TOLD_MINUTE)) {
            return BAD;
        }
        if (!laid.told.addWord(m)) {
            return FULL;
        }
        history.note(false);
        giving.known = false;
        return laid.told.words;
    }

    public int takeBack() {
        if (history.steps == 0) {
            return NO;
        }
        history.undo(laid.told);
        giving.known = false;
        return history.steps;
    }

    public int keep() {
        return history.store(laid.told) ? history.kept : FULL;
    }

    public int back() {
        if (!history.restore(laid.told)) {
            return NO;
        }
        giving.known = false;
        return history.kept;
    }

    public int count(int what) {
        switch (what) {
            case 0: return laid.guests;
            case 1: return game.pairs;
            case 2: return laid.told.signs;
            case 3: return laid.told.words;
            case 4: return laid.offers;
            case 5: return laid.looks;
            case 6: return history.steps;
            case 7: return history.kept;
            case 8: return length;
            default: return BAD;
        }
    }

    // ---- helpers of the calls

    private static boolean within(int number, int least, int most) {
        return number >= least && number <= most;
    }

    private boolean isGuest(int i) {
        return within(i, 0, laid.guests - 1);
    }

    private void passAsItIs() {
        evening.prepare(laid);
        evening.pass();
    }

    private int allWithBus(int i, int m) {
        evening.prepare(laid);
        evening.makeBus(i, m);
        evening.pass();
        return evening.wastedByAll();
    }

    private int allWithBell(int m) {
        evening.prepare(laid);
        evening.ringAt(m);
        evening.pass();
        return evening.wastedByAll();
    }

    /** Who would take leave of himself in round r, if the first so many went by the rule of odd ones. */
    private static int leftAlone(int rounds, int r) {
        for (int k = 0; k < rounds; k++) {
            if (Math.floorMod(r - k, rounds) == k) {
                return k;
            }
        }
        return NONE;
    }

    private static int inLowestTerms(int above, int below, int part) {
        if (below <= 0) {
            return NONE;
        }
        int divisor = greatestDivisor(below, above);
        return (part == 0 ? above : below) / divisor;
    }

    /** The greatest common divisor, 1 at least, of a (1 at least) and b (0 at least). */
    private static int greatestDivisor(int a, int b) {
        int great = a;
        int small = b;
        // Two steps at least halve the number, so an int is through far ahead of the bound.
        for (int step = 0; step < 100 && small > 0; step++) {
            int rest = great % small;
            great = small;
            small = rest;
        }
        return Math.max(great, 1);
    }

    /** Signs and words of the host, in the order in which they were told. */
    private static final class Told {
        private int signs = 0;
        private final int[] signMinute = new int[MOST_SIGNS];
        private final int[] signWorth = new int[MOST_SIGNS];
        private int words = 0;
        private final int[] wordMinute = new int[MOST_WORDS];

        void clear() {
            signs = 0;
            words = 0;
        }

        boolean addSign(int minute, int worth) {
            if (signs >= MOST_SIGNS) {
                return false;
            }
            signMinute[signs] = minute;
            signWorth[signs] = worth;
            signs++;
            return true;
        }

        boolean addWord(int minute) {
            if (words >= MOST_WORDS) {
                return false;
            }
            wordMinute[words] = minute;
            words++;
            return true;
        }

        void copyFrom(Told other) {
            signs = other.signs;
            words = other.words;
            System.arraycopy(other.signMinute, 0, signMinute, 0, MOST_SIGNS);
            System.arraycopy(other.signWorth, 0, signWorth, 0, MOST_SIGNS);
            System.arraycopy(other.wordMinute, 0, wordMinute, 0, MOST_WORDS);
        }
    }

    /** What can be taken back, and what was kept. */
    private static final class History {
        private final boolean[] wasSign = new boolean[MOST_TO_TAKE_BACK];
        private int steps = 0;
        private final Told firstKept = new Told();
        private final Told secondKept = new Told();
        private int kept = 0;

        void forget() {
            steps = 0;
            kept = 0;
        }

        void note(boolean sign) {
            if (steps >= MOST_TO_TAKE_BACK) {
                for (int k = 1; k < MOST_TO_TAKE_BACK; k++) {
                    wasSign[k - 1] = wasSign[k];
                }
                steps = MOST_TO_TAKE_BACK - 1;
            }
            wasSign[steps] = sign;
            steps++;
        }

        /** The latest one told stands last of its sort, so its sort is all that must be known. */
        void undo(Told told) {
            if (steps == 0) {
                return;
            }
            steps--;
            if (wasSign[steps]) {
                told.signs = Math.max(told.signs - 1, 0);
            } else {
                told.words = Math.max(told.words - 1, 0);
            }
        }

        boolean store(Told told) {
            if (kept >= MOST_KEPT) {
                return false;
            }
            placeOf(kept).copyFrom(told);
            kept++;
            return true;
        }

        boolean restore(Told told) {
            if (kept == 0) {
                return false;
            }
            kept--;
            told.copyFrom(placeOf(kept));
            steps = 0;
            return true;
        }

        private Told placeOf(int k) {
            return k == 0 ? firstKept : secondKept;
        }
    }

    /** All that a text tells. */
    private static final class Party {
        private static final int PLAIN_DRAW = 15, PLAIN_HALL = 20, PLAIN_END = 240;
        private static final int NONE_AHEAD = 10, YAWN_FROM = 3, NONE_FROM = 7;

        private int guests = 0;
        private final int[] pair = new int[MOST_GUESTS];
        private final int[] wouldGo = new int[MOST_GUESTS];
        private final int[] ownShame = new int[MOST_GUESTS];
        private final int[] kind = new int[MOST_GUESTS];
        private final Told told = new Told();
        private int drawsBy = PLAIN_DRAW;
        private int hall = PLAIN_HALL;
        private int end = PLAIN_END;
        private int offers = 0;
        private final int[] offerWorth = new int[MOST_OFFERS];
        private final int[] offerCost = new int[MOST_OFFERS];
        private final int[] ifMeant = new int[MOST_SAID + 1];
        private final int[] ifNot = new int[MOST_SAID + 1];
        private int looks = 0;
        private final int[] lookedAt = new int[MOST_LOOKS];
        private final int[] lookMinute = new int[MOST_LOOKS];
        private final int[] yawned = new int[MOST_LOOKS];

        void clear() {
            guests = 0;
            told.clear();
            drawsBy = PLAIN_DRAW;
            hall = PLAIN_HALL;
            end = PLAIN_END;
            offers = 0;
            Arrays.fill(ifMeant, 0);
            Arrays.fill(ifNot, 0);
            looks = 0;
        }

        boolean addGuest(int itsPair, int minute, int shameAtFirst, int itsKind) {
            if (guests >= MOST_GUESTS) {
                return false;
            }
            pair[guests] = itsPair;
            wouldGo[guests] = minute;
            ownShame[guests] = shameAtFirst;
            kind[guests] = itsKind;
            guests++;
            return true;
        }

        boolean addOffer(int worth, int price) {
            if (offers >= MOST_OFFERS) {
                return false;
            }
            offerWorth[offers] = worth;
            offerCost[offers] = price;
            offers++;
            return true;
        }

        boolean addLook(int i, int minute, int yawn) {
            if (looks >= MOST_LOOKS || i >= guests) {
                return false;
            }
            lookedAt[looks] = i;
            lookMinute[looks] = minute;
            yawned[looks] = yawn;
            looks++;
            return true;
        }

        boolean setCustom(int times, int weightIfMeant, int weightIfNot) {
            if (!within(times, 1, MOST_SAID)) {
                return false;
            }
            ifMeant[times] = weightIfMeant;
            ifNot[times] = weightIfNot;
            return true;
        }

        boolean setHall(int draw, int minutes) {
            drawsBy = draw;
            hall = minutes;
            return true;
        }

        boolean setEnd(int minute) {
            end = minute;
            return true;
        }

        /** The weight of it that guest i would have gone from a minute on; six looks stay below an int. */
        int weightOfLooks(int i, int fromMinute) {
            int weight = 1;
            for (int k = 0; k < looks; k++) {
                if (lookedAt[k] == i) {
                    weight *= weightOfLook(yawned[k] == 1, lookMinute[k] < fromMinute);
                }
            }
            return weight;
        }

        private static int weightOfLook(boolean yawn, boolean ahead) {
            if (ahead) {
                return yawn ? 0 : NONE_AHEAD;
            }
            return yawn ? YAWN_FROM : NONE_FROM;
        }
    }

    /** Reads a text into a party. */
    private static final class Reader {
        private static final String LETTERS = "gswlbcuy";
        private static final int MOST_NUMBERS = 4, MOST_DIGITS = 3;
        private static final int[] HOW_MANY = {4, 2, 1, 2, 1, 2, 3, 3};
        // Four columns for each letter, of which the first HOW_MANY are told.
        private static final int[] LEAST = {
            0, 0, 0, 0,
            0, 1, 0, 0,
            0, 0, 0, 0,
            0, 0, 0, 0,
            0, 0, 0, 0,
            1, 0, 0, 0,
            1, 0, 0, 0,
            0, 0, 0, 0
        };
        private static final int[] MOST = {
            3, 359, 199, 5,
            359, 99, 0, 0,
            359, 0, 0, 0,
            99, 60, 0, 0,
            359, 0, 0, 0,
            99, 999, 0, 0,
            3, 99, 99, 0,
            7, 359, 1, 0
        };

        private final int[] numbers = new int[MOST_NUMBERS];
        private int place = 0;

        int firstFault(byte[] text, int length, Party party) {
            party.clear();
            place = 0;
            // Each item that is taken moves the place on, so there are never more items than bytes.
            for (int items = 0; items <= length && place < length; items++) {
                int start = place;
                int letter = LETTERS.indexOf((char) (text[start] & 255));
                if (letter < 0 || !readNumbers(text, length, letter) || !enter(letter, party)) {
                    return start;
                }
            }
            return NONE;
        }

        /** Reads the numbers behind a letter, with what parts and ends them, and moves the place behind. */
        private boolean readNumbers(byte[] text, int length, int letter) {
            int many = HOW_MANY[letter];
            place++;
            for (int k = 0; k < many; k++) {
                int number = readNumber(text, length);
                int column = MOST_NUMBERS * letter + k;
                if (number < LEAST[column] || number > MOST[column]) {
                    return false;
                }
                numbers[k] = number;
                char due = k == many - 1 ? ';' : ',';
                if (place >= length || text[place] != due) {
                    return false;
                }
                place++;
            }
            return true;
        }

        /** One to three figures; below 0, if there is none. */
        private int readNumber(byte[] text, int length) {
            int start = place;
            int number = 0;
            while (place < length && place - start < MOST_DIGITS && text[place] >= '0' && text[place] <= '9') {
                number = 10 * number + (text[place] - '0');
                place++;
            }
            return place == start ? -1 : number;
        }

        private boolean enter(int letter, Party party) {
            switch (letter) {
                case 0: return party.addGuest(numbers[0], numbers[1], numbers[2], numbers[3]);
                case 1: return party.told.addSign(numbers[0], numbers[1]);
                case 2: return party.told.addWord(numbers[0]);
                case 3: return party.setHall(numbers[0], numbers[1]);
                case 4: return party.setEnd(numbers[0]);
                case 5: return party.addOffer(numbers[0], numbers[1]);
                case 6: return party.setCustom(numbers[0], numbers[1], numbers[2]);
                case 7: return party.addLook(numbers[0], numbers[1], numbers[2]);
                default: return false;
            }
        }
    }

    /**
     * One evening of a party. It leaps over minutes in which nobody can stand: between two minutes
     * at which somebody stood, or a sign or a word was told, no shame changes.
     */
    private static final class Evening {
        private static final int WORD_SHAME = 10, EVERYBODY = 255;
        private static final int BY_DRAW = 7919, BY_GUEST = 6151, BY_SIGN = 3571;
        private static final int DRAW_MODULUS = 65521, DRAW_TENTHS = 10, DRAW_HEARD = 6;

        private Party party = new Party();
        // As the guests are this evening: one may be made a bus.
        private final int[] kind = new int[MOST_GUESTS];
        private final int[] goesFrom = new int[MOST_GUESTS];
        private int signs = 0;
        private final int[] signMinute = new int[MOST_SIGNS + MOST_OFFERS];
        private final int[] signWorth = new int[MOST_SIGNS + MOST_OFFERS];
        // Bit i: the sign counts for guest i.
        private final int[] heardBy = new int[MOST_SIGNS + MOST_OFFERS];
        private int allStandAt = LAST_SITTING_MINUTE;
        // Bit p: pair p has a guest; pair p stood.
        private int present = 0;
        private int stood = 0;
        private int guestsStood = 0;
        // By pairs, as the guests of one do all at once.
        private final int[] ready = new int[MOST_PAIRS];
        private final int[] stands = new int[MOST_PAIRS];
        private final int[] goes = new int[MOST_PAIRS];

        void prepare(Party itsParty) {
            party = itsParty;
            allStandAt = LAST_SITTING_MINUTE;
            present = 0;
            for (int i = 0; i < party.guests; i++) {
                present |= 1 << party.pair[i];
                kind[i] = party.kind[i];
                goesFrom[i] = party.wouldGo[i];
            }
            signs = 0;
            for (int k = 0; k < party.told.signs; k++) {
                addSign(party.told.signMinute[k], party.told.signWorth[k]);
            }
        }

        void addSign(int minute, int worth) {
            if (signs >= MOST_SIGNS + MOST_OFFERS) {
                return;
            }
            signMinute[signs] = minute;
            signWorth[signs] = worth;
            heardBy[signs] = EVERYBODY;
            signs++;
        }

        /** Only the signs that were told are left. */
        void dropAddedSigns() {
            signs = party.told.signs;
        }

        void makeBus(int i, int fromMinute) {
            kind[i] = BUS;
            goesFrom[i] = fromMinute;
        }

        void ringAt(int minute) {
            allStandAt = minute;
        }

        void drawWhoHears(int z) {
            for (int k = 0; k < signs; k++) {
                heardBy[k] = 0;
                for (int i = 0; i < party.guests; i++) {
                    long x = (long) BY_DRAW * z + BY_GUEST * i + BY_SIGN * k + 1;
                    if (x * x % DRAW_MODULUS % DRAW_TENTHS < DRAW_HEARD) {
                        heardBy[k] |= 1 << i;
                    }
                }
            }
        }

        void pass() {
            stood = 0;
            guestsStood = 0;
            Arrays.fill(stands, NEVER);
            int minute = 0;
            for (int step = 0; step <= LAST_SITTING_MINUTE && minute < allStandAt && stood != present; step++) {
                minute = goOnFrom(minute);
            }
            for (int p = 0; p < MOST_PAIRS; p++) {
                if (sits(p)) {
                    stands[p] = allStandAt;
                }
            }
            for (int p = 0; p < MOST_PAIRS; p++) {
                goes[p] = goesAfter(stands[p]);
            }
        }

        /** Who stands first, while no shame changes, stands: the minute from which to go on. */
        private int goOnFrom(int minute) {
            int until = Math.min(nextChange(minute), allStandAt);
            int first = until;
            for (int p = 0; p < MOST_PAIRS; p++) {
                ready[p] = sits(p) ? Math.max(minute, pairFrom(p, minute)) : NEVER;
                first = Math.min(first, ready[p]);
            }
            if (first >= until) {
                return until;
            }
            for (int p = 0; p < MOST_PAIRS; p++) {
                if (ready[p] <= first) {
                    stands[p] = first;
                }
            }
            lookAt(first + 1);
            return first + 1;
        }

        private int nextChange(int minute) {
            int next = NEVER;
            for (int k = 0; k < signs; k++) {
                if (signMinute[k] > minute) {
                    next = Math.min(next, signMinute[k]);
                }
            }
            for (int k = 0; k < party.told.words; k++) {
                if (party.told.wordMinute[k] > minute) {
                    next = Math.min(next, party.told.wordMinute[k]);
                }
            }
            return next;
        }

        private boolean sits(int p) {
            return ((present & ~stood) >> p & 1) == 1;
        }

        /** From which minute a pair stands, if no shame changes any more behind a minute. */
        private int pairFrom(int p, int minute) {
            int all = 0;
            int bus = NEVER;
            for (int i = 0; i < party.guests; i++) {
                if (party.pair[i] == p) {
                    int from = pressesFrom(i, minute);
                    all = Math.max(all, from);
                    if (kind[i] == BUS) {
                        bus = Math.min(bus, from);
                    }
                }
            }
            return Math.min(all, bus);
        }

        /** Reckons who stood ahead of a minute. */
        void lookAt(int minute) {
            stood = 0;
            guestsStood = 0;
            for (int i = 0; i < party.guests; i++) {
                int p = party.pair[i];
                if (stands[p] < minute) {
                    stood |= 1 << p;
                    guestsStood++;
                }
            }
        }

        /** From which minute a guest presses, if no shame changes any more behind a minute. */
        int pressesFrom(int i, int minute) {
            if (kind[i] == STAYER && (present & ~stood & ~(1 << party.pair[i])) != 0) {
                return NEVER;
            }
            if (kind[i] == BUS || (kind[i] == SLY && stood != 0)) {
                return goesFrom[i];
            }
            return goesFrom[i] + shameAt(i, minute);
        }

        int shameAt(int i, int minute) {
            int left = party.ownShame[i] - party.drawsBy * guestsStood;
            for (int k = 0; k < signs && kind[i] != DEAF; k++) {
                if (signMinute[k] <= minute && (heardBy[k] >> i & 1) == 1) {
                    left -= signWorth[k];
                }
            }
            left = Math.max(left, 0);
            for (int k = 0; k < party.told.words && kind[i] == POLITE; k++) {
                if (party.told.wordMinute[k] <= minute) {
                    left += WORD_SHAME;
                }
            }
            return left;
        }

        /** When they go who stood in a minute: those who stand while the hall goes on hold them up. */
        private int goesAfter(int minute) {
            int last = minute;
            for (int round = 0; round < MOST_PAIRS; round++) {
                for (int p = 0; p < MOST_PAIRS; p++) {
                    if (stands[p] > last && stands[p] <= last + party.hall) {
                        last = stands[p];
                    }
                }
            }
            return last + party.hall;
        }

        int standsIn(int i) {
            return stands[party.pair[i]];
        }

        int goesIn(int i) {
            return goes[party.pair[i]];
        }

        int lastGoes() {
            int last = 0;
            for (int i = 0; i < party.guests; i++) {
                last = Math.max(last, goesIn(i));
            }
            return last;
        }

        int wastedBy(int i) {
            return Math.abs(goesIn(i) - party.wouldGo[i]);
        }

        int wastedByHost() {
            return Math.abs(lastGoes() - party.end);
        }

        int wastedByAll() {
            int sum = wastedByHost();
            for (int i = 0; i < party.guests; i++) {
                sum += wastedBy(i);
            }
            return sum;
        }
    }

    /** Which signs to give when; known until signs, words or the party change. */
    private static final class Giving {
        private boolean known = false;
        private int least = 0;
        // 0 not given, else 1 and the number of the minute.
        private final int[] choice = new int[MOST_OFFERS];
        private final int[] chosen = new int[MOST_OFFERS];

        int minuteOf(int offer) {
            return chosen[offer] == 0 ? NONE : GIVEN_STEP * (chosen[offer] - 1);
        }

        void reckon(Party party, Evening evening) {
            if (known) {
                return;
            }
            int ways = 1;
            for (int k = 0; k < party.offers; k++) {
                ways *= GIVEN_CHOICES;
            }
            least = NEVER;
            evening.prepare(party);
            for (int way = 0; way < ways; way++) {
                choose(way, party.offers);
                int sum = giveChosen(party, evening);
                evening.pass();
                sum += evening.wastedByAll();
                if (sum < least) {
                    least = sum;
                    System.arraycopy(choice, 0, chosen, 0, MOST_OFFERS);
                }
            }
            known = true;
        }

        private void choose(int way, int offers) {
            int rest = way;
            for (int k = offers - 1; k >= 0; k--) {
                choice[k] = rest % GIVEN_CHOICES;
                rest /= GIVEN_CHOICES;
            }
        }

        /** Gives the signs as chosen: what they cost. */
        private int giveChosen(Party party, Evening evening) {
            int sum = 0;
            evening.dropAddedSigns();
            for (int k = 0; k < party.offers; k++) {
                if (choice[k] > 0) {
                    evening.addSign(GIVEN_STEP * (choice[k] - 1), party.offerWorth[k]);
                    sum += party.offerCost[k];
                }
            }
            return sum;
        }
    }

    /** The game of who is first; known until the party changes. */
    private static final class Game {
        private boolean known = false;
        private int pairs = 0;
        private final int[] wouldGo = new int[MOST_PAIRS];
        private final int[] ownShame = new int[MOST_PAIRS];
        private final int[] slot = new int[MOST_PAIRS];
        private final int[] firstRest = new int[MOST_PAIRS];
        private int restsFound = 0;
        private int leastOfRests = 0;
        private int leastOfAll = 0;

        void gather(Party party) {
            known = false;
            pairs = 0;
            for (int p = 0; p < MOST_PAIRS; p++) {
                int members = 0;
                wouldGo[pairs] = 0;
                ownShame[pairs] = 0;
                for (int i = 0; i < party.guests; i++) {
                    if (party.pair[i] == p) {
                        members++;
                        wouldGo[pairs] = Math.max(wouldGo[pairs], party.wouldGo[i]);
                        ownShame[pairs] = Math.max(ownShame[pairs], party.ownShame[i]);
                    }
                }
                if (members > 0) {
                    pairs++;
                }
            }
        }

        /** Takes the figures as slots: whether each pair's is one. */
        boolean chooseByFigures(int figures) {
            int rest = figures;
            for (int i = 0; i < pairs; i++) {
                slot[i] = rest % 10;
                rest /= 10;
                if (slot[i] >= SLOTS) {
                    return false;
                }
            }
            return true;
        }

        int costOf(int i) {
            int far = Math.abs(FIRST_SLOT_MINUTE + SLOT_STEP * slot[i] - wouldGo[i]);
            return isFirstAlone(i) ? far + ownShame[i] : far;
        }

        private boolean isFirstAlone(int i) {
            for (int k = 0; k < pairs; k++) {
                if (k != i && slot[k] <= slot[i]) {
                    return false;
                }
            }
            return true;
        }

        void reckon() {
            if (known) {
                return;
            }
            restsFound = 0;
            leastOfRests = NEVER;
            leastOfAll = NEVER;
            int ways = 1;
            for (int i = 0; i < pairs; i++) {
                ways *= SLOTS;
            }
            for (int way = 0; way < ways; way++) {
                choose(way);
                weighChoice();
            }
            known = true;
        }

        private void choose(int way) {
            int rest = way;
            for (int i = pairs - 1; i >= 0; i--) {
                slot[i] = rest % SLOTS;
                rest /= SLOTS;
            }
        }

        private void weighChoice() {
            int sum = 0;
            for (int i = 0; i < pairs; i++) {
                sum += costOf(i);
            }
            leastOfAll = Math.min(leastOfAll, sum);
            if (!isRest()) {
                return;
            }
            if (restsFound == 0) {
                System.arraycopy(slot, 0, firstRest, 0, MOST_PAIRS);
            }
            restsFound++;
            leastOfRests = Math.min(leastOfRests, sum);
        }

        private boolean isRest() {
            for (int i = 0; i < pairs; i++) {
                if (wouldRatherMove(i)) {
                    return false;
                }
            }
            return true;
        }

        private boolean wouldRatherMove(int i) {
            int own = slot[i];
            int now = costOf(i);
            boolean better = false;
            for (int other = 0; other < SLOTS && !better; other++) {
                slot[i] = other;
                better = costOf(i) < now;
            }
            slot[i] = own;
            return better;
        }
    }
}
