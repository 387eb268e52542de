import java.util.Arrays;

public final class ThreeCards {
    public static final int BAD = -1, NO = -2, FULL = -3, NONE = -4;

    // The answer for BAD where -1 may be a true answer.
    private static final int BAD_LEAD = -100001;
    private static final int BAD_TOLD = -22;

    private static final int TEN = 0, HALVES = 1, EVENS = 2, MILES = 3;
    private static final int NOBODY = 2;
    private static final int MOST_KEPT = 2;

    private final Text text = new Text();
    private final Reader reader = new Reader(text);
    private final Fight draft = new Fight();
    private final Fight laid = new Fight();
    private final Cards cards = new Cards(laid);
    private final Coins flips = new Coins(laid, cards);
    private final Seats bench = new Seats(laid);
    private final Notes notes = new Notes();
    private final Buttons presses = new Buttons(laid, notes);
    private final Told told = new Told(notes);
    private final Game game = new Game(notes);
    private final Notes[] kept = {new Notes(), new Notes()};
    private int keptCount = 0;

    public ThreeCards() {
        laid.startPlain();
    }

    // ---- fights

    public int write(int n, long v) {
        if (!within(n, 1, 8)) {
            return BAD;
        }
        return text.append(n, v) ? text.length : FULL;
    }

    public int wipe() {
        return text.empty();
    }

    public int fault() {
        return reader.readInto(draft);
    }

    public int lay() {
        if (reader.readInto(draft) != NONE || draft.judgeCount < 3) {
            return NO;
        }
        reader.readInto(laid);
        laid.addUp();
        notes.stopDelays();
        keptCount = 0;
        return laid.judgeCount;
    }

    public int blow(int k, int what) {
        if (!within(k, 0, laid.blowCount - 1) || !within(what, 0, Fight.BLOW_PARTS)) {
            return BAD;
        }
        return what == Fight.BLOW_PARTS ? laid.seenBy[k] : laid.blowPart(k, what);
    }

    public int sum(int judge, int round, int corner) {
        return isScored(judge, round) && isCorner(corner) ? laid.sumOf(judge, round, corner) : BAD;
    }

    public int lead(int judge, int round) {
        return isScored(judge, round) ? laid.leadOf(judge, round) : BAD_LEAD;
    }

    public int close(int judge, int round) {
        if (!isScored(judge, round)) {
            return BAD;
        }
        return laid.isClose(judge, round) ? 1 : 0;
    }

    // ---- cards

    public int margin(int rule, int judge, int round) {
        return isRule(rule) && isScored(judge, round) ? cards.marginBy(rule, judge, round) : BAD_LEAD;
    }

    public int card(int rule, int judge) {
        return isRule(rule) && isJudge(judge) ? cards.cardBy(rule, judge) : BAD_LEAD;
    }

    public int points(int rule, int judge, int corner) {
        if (!within(rule, TEN, EVENS) || !isJudge(judge) || !isCorner(corner)) {
            return BAD;
        }
        return cards.pointsBy(rule, judge, corner);
    }

    public int end(int rule, int a, int b, int c, int what) {
        if (!isRule(rule) || !areThree(a, b, c) || !within(what, 0, 1)) {
            return BAD;
        }
        int one = Cards.ownerOf(cards.cardBy(rule, a));
        int two = Cards.ownerOf(cards.cardBy(rule, b));
        int three = Cards.ownerOf(cards.cardBy(rule, c));
        return what == 0 ? Cards.endOf(one, two, three) : Cards.kindOf(one, two, three);
    }

    public int others(int rule, int end) {
        return isRule(rule) && within(end, 0, NOBODY) ? cards.setsThatEnd(rule, end) : BAD;
    }

    public int men(int rule) {
        return isRule(rule) ? cards.judgesAgainstHardness(rule) : BAD;
    }

    public long coins(int rule, int a, int b, int c, int end, int part) {
        if (!within(rule, TEN, HALVES) || !areThree(a, b, c)) {
            return BAD;
        }
        if (!within(end, -1, NOBODY) || !within(part, 0, end == -1 ? 0 : 1)) {
            return BAD;
        }
        flips.toss(rule, a, b, c);
        if (end == -1) {
            return flips.howMany;
        }
        return flips.oddsOf(end, part);
    }

    public int seats(int what) {
        if (!within(what, 0, 4)) {
            return BAD;
        }
        bench.choose();
        return bench.best[what];
    }

    // ---- buttons

    public int delay(int judge, int d) {
        if (!isJudge(judge) || !within(d, 0, 9)) {
            return BAD;
        }
        int was = notes.delays[judge];
        notes.delays[judge] = d;
        return was;
    }

    public int buttons(int round, int q, int w, int what) {
        if (!within(round, -1, laid.rounds - 1) || !within(q, 1, Fight.MOST_JUDGES)) {
            return BAD;
        }
        if (!within(w, 0, 9) || !within(what, 0, 3)) {
            return BAD;
        }
        if (round >= 0) {
            return presses.tellOf(round, q, w, what);
        }
        int all = 0;
        for (int r = 0; r < laid.rounds; r++) {
            all += presses.tellOf(r, q, w, what);
        }
        return all;
    }

    // ---- told cards

    public int tell(int name, int night, int margin) {
        if (!isName(name) || !within(night, 0, Notes.NIGHTS - 1) || !within(margin, Notes.UNTOLD, 20)) {
            return BAD_TOLD;
        }
        int was = notes.toldOf(name, night);
        notes.setTold(name, night, margin);
        return was;
    }

    public int same(int a, int b, int what) {
        if (!isName(a) || !isName(b) || a == b || !within(what, 0, 2)) {
            return BAD;
        }
        return told.alike(a, b, what);
    }

    public int lean(int name, int what) {
        return isName(name) && within(what, 0, 1) ? told.leaning(name, what) : BAD_LEAD;
    }

    public int unlike(int name) {
        return isName(name) ? told.farthestNight(name) : BAD;
    }

    public int added(int rule, int corner, int one, int two, int three) {
        if (!within(rule, TEN, EVENS) || !isCorner(corner)) {
            return BAD;
        }
        if (!isToldSum(one) || !isToldSum(two) || !isToldSum(three)) {
            return BAD;
        }
        if (cards.pointsBy(rule, 0, corner) != one) {
            return 0;
        }
        if (cards.pointsBy(rule, 1, corner) != two) {
            return 1;
        }
        return cards.pointsBy(rule, 2, corner) != three ? 2 : NONE;
    }

    // ---- open cards

    public int tenths(int zero, int one, int v) {
        if (!within(zero, 0, 1) || !within(one, 0, 1) || !within(v, 0, 10)) {
            return BAD;
        }
        int was = notes.tenthsOf(zero, one);
        notes.setTenths(zero, one, v);
        return was;
    }

    public int open(int n, int m, int what) {
        if (!isGame(n, m, what)) {
            return BAD;
        }
        game.playOpen(n, m);
        return game.result(what);
    }

    public int hidden(int n, int m, int what) {
        if (!isGame(n, m, what)) {
            return BAD;
        }
        game.playHidden(n, m);
        return game.result(what);
    }

    public int keep() {
        if (keptCount >= MOST_KEPT) {
            return FULL;
        }
        kept[keptCount].copyFrom(notes);
        keptCount++;
        return keptCount;
    }

    public int back() {
        if (keptCount <= 0) {
            return NO;
        }
        keptCount--;
        notes.copyFrom(kept[keptCount]);
        return keptCount;
    }

    public int count(int what) {
        switch (what) {
            case 0: return laid.rounds;
            case 1: return laid.judgeCount;
            case 2: return laid.blowCount;
            case 3: return text.length;
            case 4: return notes.howManyTold();
            case 5: return keptCount;
            default: return BAD;
        }
    }

    // ---- what a number may be

    private static boolean within(int v, int low, int high) {
        return v >= low && v <= high;
    }

    private static boolean isCorner(int corner) {
        return within(corner, 0, 1);
    }

    private static boolean isRule(int rule) {
        return within(rule, TEN, MILES);
    }

    private static boolean isName(int name) {
        return within(name, 0, Notes.NAMES - 1);
    }

    private static boolean isToldSum(int points) {
        return within(points, 0, 999);
    }

    private static boolean isGame(int n, int m, int what) {
        return within(n, 1, Game.MOST_ROUNDS) && within(m, -Game.MOST_AHEAD, Game.MOST_AHEAD) && within(what, 0, 2);
    }

    private boolean isJudge(int judge) {
        return within(judge, 0, laid.judgeCount - 1);
    }

    private boolean isScored(int judge, int round) {
        return isJudge(judge) && within(round, 0, laid.rounds - 1);
    }

    private boolean areThree(int a, int b, int c) {
        return isJudge(a) && isJudge(b) && isJudge(c) && a != b && a != c && b != c;
    }

    private static int signOf(int v) {
        if (v == 0) {
            return 0;
        }
        return v > 0 ? 1 : -1;
    }

    private static int clip(int v, int bound) {
        return Math.max(-bound, Math.min(bound, v));
    }

    /** THE TEXT: its bytes. */
    private static final class Text {
        private static final int MOST = 500;
        private final byte[] bytes = new byte[MOST];
        private int length = 0;

        boolean append(int n, long v) {
            if (n > MOST - length) {
                return false;
            }
            for (int i = n - 1; i >= 0; i--) {
                bytes[length] = (byte) (v >> (8 * i));
                length++;
            }
            return true;
        }

        int empty() {
            int was = length;
            length = 0;
            return was;
        }

        /** A byte (0 to 255); -1 beyond the end, which is no byte that an ITEM may have. */
        int byteAt(int place) {
            return place >= 0 && place < length ? bytes[place] & 255 : -1;
        }
    }

    /** Reads THE TEXT, ITEM by ITEM, into a fight. */
    private static final class Reader {
        private static final String LETTERS = "rbfkdhj";
        // The numbers of the letter i stand in LOW and HIGH from FIRST[i] up to FIRST[i + 1].
        private static final int[] FIRST = {0, 1, 6, 9, 11, 13, 15, 22};
        private static final int[] LOW = {1, 0, 0, 0, 1, 0, 0, 0, 0, 0, 0, 0, 0, 0, 0, 0, 0, 0, 0, 1, 0, 0};
        private static final int[] HIGH = {12, 11, 179, 1, 9, 11, 11, 1, 9, 11, 1, 11, 1, 1, 9, 11, 9, 9, 40, 9, 9, 99};

        private final Text text;
        private final int[] numbers = new int[Fight.JUDGE_PARTS];
        private int place = 0;

        Reader(Text text) {
            this.text = text;
        }

        /** The place of the first ITEM that is not so, or NONE; the fight then holds all ITEMS. */
        int readInto(Fight fight) {
            fight.clear();
            place = 0;
            for (int items = 0; items < Text.MOST && place < text.length; items++) {
                int start = place;
                if (!readItem() || !fight.take(text.byteAt(start), numbers)) {
                    return start;
                }
            }
            return NONE;
        }

        private boolean readItem() {
            int kind = LETTERS.indexOf((char) text.byteAt(place));
            if (kind < 0) {
                return false;
            }
            place++;
            int first = FIRST[kind], behind = FIRST[kind + 1];
            for (int i = first; i < behind; i++) {
                int value = readNumber();
                if (!within(value, LOW[i], HIGH[i])) {
                    return false;
                }
                if (text.byteAt(place) != (i == behind - 1 ? ';' : ',')) {
                    return false;
                }
                place++;
                numbers[i - first] = value;
            }
            return true;
        }

        /** A number of one to three figures, or -1 where none stands. */
        private int readNumber() {
            int value = 0, figures = 0;
            while (figures < 3 && within(text.byteAt(place), '0', '9')) {
                value = value * 10 + text.byteAt(place) - '0';
                figures++;
                place++;
            }
            return figures == 0 ? -1 : value;
        }
    }

    /** What a TEXT tells, and what its JUDGES SEE and add up. */
    private static final class Fight {
        private static final int MOST_ROUNDS = 12, MOST_BLOWS = 40, MOST_JUDGES = 8, MOST_OF_A_ROUND = 3;
        private static final int BLOW_PARTS = 5, ROUND = 0, SECOND = 1, CORNER = 2, HARD = 3, SIDE = 4;
        private static final int JUDGE_PARTS = 7, SEAT = 0, COUNTS = 1, FORWARD = 2, LEANS = 3, LATE = 4, EARS = 5;
        private static final int NEAR = 6;
        private static final int SIDES = 12, SEEN_OFF = 4, LAST_SECONDS = 170, UPRIGHT = 20;
        private static final int[] PLAIN_JUDGE = {0, 1, 0, UPRIGHT, 1, 0, 0};

        private int rounds, home, noise, blowCount, judgeCount;
        private final int[] blows = new int[MOST_BLOWS * BLOW_PARTS];
        private final int[] judges = new int[MOST_JUDGES * JUDGE_PARTS];
        // Of each ROUND and CORNER, at round * 2 + corner.
        private final int[] forward = new int[MOST_ROUNDS * 2];
        private final int[] downs = new int[MOST_ROUNDS * 2];
        private final int[] taken = new int[MOST_ROUNDS * 2];
        private final int[] seenBy = new int[MOST_BLOWS];
        private final int[] sums = new int[MOST_JUDGES * MOST_ROUNDS * 2];
        private final int[] leads = new int[MOST_JUDGES * MOST_ROUNDS];

        void clear() {
            rounds = MOST_ROUNDS;
            home = 0;
            noise = 0;
            blowCount = 0;
            judgeCount = 0;
            Arrays.fill(forward, 0);
            Arrays.fill(downs, 0);
            Arrays.fill(taken, 0);
        }

        void startPlain() {
            clear();
            for (int i = 0; i < 3; i++) {
                addJudge(PLAIN_JUDGE);
            }
            addUp();
        }

        /** Takes an ITEM whose numbers are in their bounds; false if there are too many of its kind. */
        boolean take(int letter, int[] numbers) {
            switch (letter) {
                case 'r':
                    rounds = numbers[0];
                    return true;
                case 'b':
                    return addBlow(numbers);
                case 'f':
                    forward[numbers[0] * 2 + numbers[1]] = numbers[2];
                    return true;
                case 'k':
                    return addOne(downs, numbers[0], numbers[1]);
                case 'd':
                    return addOne(taken, numbers[0], numbers[1]);
                case 'h':
                    home = numbers[0];
                    noise = numbers[1];
                    return true;
                default:
                    return addJudge(numbers);
            }
        }

        private boolean addBlow(int[] numbers) {
            if (blowCount >= MOST_BLOWS) {
                return false;
            }
            System.arraycopy(numbers, 0, blows, blowCount * BLOW_PARTS, BLOW_PARTS);
            blowCount++;
            return true;
        }

        private boolean addJudge(int[] numbers) {
            if (judgeCount >= MOST_JUDGES) {
                return false;
            }
            System.arraycopy(numbers, 0, judges, judgeCount * JUDGE_PARTS, JUDGE_PARTS);
            judgeCount++;
            return true;
        }

        private boolean addOne(int[] tally, int round, int corner) {
            if (tally[round * 2] + tally[round * 2 + 1] >= MOST_OF_A_ROUND) {
                return false;
            }
            tally[round * 2 + corner]++;
            return true;
        }

        /** Fills seenBy, sums and leads once, since nothing of a fight changes behind lay(). */
        void addUp() {
            Arrays.fill(seenBy, 0);
            for (int judge = 0; judge < judgeCount; judge++) {
                for (int i = 0; i < MOST_ROUNDS * 2; i++) {
                    sums[judge * MOST_ROUNDS * 2 + i] = judgePart(judge, FORWARD) * forward[i];
                }
                for (int k = 0; k < blowCount; k++) {
                    addUpBlow(judge, k);
                }
                for (int round = 0; round < MOST_ROUNDS; round++) {
                    int ahead = sumOf(judge, round, 0) - sumOf(judge, round, 1);
                    leads[judge * MOST_ROUNDS + round] = ahead + judgePart(judge, LEANS) - UPRIGHT;
                }
            }
        }

        private void addUpBlow(int judge, int k) {
            int worth = 0;
            if (isSeenFrom(judgePart(judge, SEAT), blowPart(k, SIDE))) {
                seenBy[k] |= 1 << judge;
                worth = judgePart(judge, COUNTS) * blowPart(k, HARD);
                if (blowPart(k, SECOND) >= LAST_SECONDS) {
                    worth *= judgePart(judge, LATE);
                }
            } else if (blowPart(k, CORNER) == home) {
                worth = noise * judgePart(judge, EARS);
            }
            sums[sumPlace(judge, blowPart(k, ROUND), blowPart(k, CORNER))] += worth;
        }

        private static boolean isSeenFrom(int seat, int side) {
            int off = Math.abs(seat - side);
            return Math.min(off, SIDES - off) <= SEEN_OFF;
        }

        private static int sumPlace(int judge, int round, int corner) {
            return (judge * MOST_ROUNDS + round) * 2 + corner;
        }

        int blowPart(int k, int part) {
            return blows[k * BLOW_PARTS + part];
        }

        int judgePart(int judge, int part) {
            return judges[judge * JUDGE_PARTS + part];
        }

        boolean isSeen(int judge, int k) {
            return (seenBy[k] >> judge & 1) == 1;
        }

        boolean isInRounds(int k) {
            return blowPart(k, ROUND) < rounds;
        }

        int sumOf(int judge, int round, int corner) {
            return sums[sumPlace(judge, round, corner)];
        }

        int leadOf(int judge, int round) {
            return leads[judge * MOST_ROUNDS + round];
        }

        boolean isClose(int judge, int round) {
            return Math.abs(leadOf(judge, round)) <= judgePart(judge, NEAR);
        }

        /** Knockdowns of CORNER 1 less those of CORNER 0. */
        int downsFor(int round) {
            return downs[round * 2 + 1] - downs[round * 2];
        }

        /** Points taken of a CORNER in all ROUNDS. */
        int takenOf(int corner) {
            int all = 0;
            for (int round = 0; round < rounds; round++) {
                all += taken[round * 2 + corner];
            }
            return all;
        }

        /** Hardness of all BLOWS in ROUNDS: that of CORNER 0 less that of CORNER 1. */
        int hardnessFor() {
            int all = 0;
            for (int k = 0; k < blowCount; k++) {
                if (isInRounds(k)) {
                    all += blowPart(k, CORNER) == 0 ? blowPart(k, HARD) : -blowPart(k, HARD);
                }
            }
            return all;
        }
    }

    /** MARGINS, CARDS, POINTS and ENDS by the RULES. */
    private static final class Cards {
        private static final int FULL_ROUND = 20, TEN_BOUND = 8, MILE_BOUND = 20;

        private final Fight fight;
        private final int[] owners = new int[Fight.MOST_JUDGES];

        Cards(Fight fight) {
            this.fight = fight;
        }

        int marginBy(int rule, int judge, int round) {
            if (rule == MILES) {
                int lead = fight.leadOf(judge, round);
                return clip(lead / 5 + signOf(lead), MILE_BOUND) + 4 * fight.downsFor(round);
            }
            int halves = 2;
            if (rule != TEN && fight.isClose(judge, round)) {
                halves = rule == HALVES ? 1 : 0;
            }
            return clip(halves * sideOf(judge, round) + 2 * fight.downsFor(round), TEN_BOUND);
        }

        /** 1 if the ROUND goes to CORNER 0, else -1; with no LEAD the last ROUND ahead that has one tells. */
        private int sideOf(int judge, int round) {
            for (int r = round; r >= 0; r--) {
                int lead = fight.leadOf(judge, r);
                if (lead != 0) {
                    return signOf(lead);
                }
            }
            return 1;
        }

        int cardBy(int rule, int judge) {
            int all = 2 * (fight.takenOf(1) - fight.takenOf(0));
            for (int round = 0; round < fight.rounds; round++) {
                all += marginBy(rule, judge, round);
            }
            return all;
        }

        int pointsBy(int rule, int judge, int corner) {
            int all = FULL_ROUND * fight.rounds - 2 * fight.takenOf(corner);
            for (int round = 0; round < fight.rounds; round++) {
                int margin = marginBy(rule, judge, round);
                all -= Math.max(0, corner == 0 ? -margin : margin);
            }
            return all;
        }

        /** Who has a CARD: 0, 1, or NOBODY of an even one. */
        static int ownerOf(int card) {
            if (card == 0) {
                return NOBODY;
            }
            return card > 0 ? 0 : 1;
        }

        static int endOf(int one, int two, int three) {
            if (one == two || one == three) {
                return one;
            }
            return two == three ? two : NOBODY;
        }

        static int kindOf(int one, int two, int three) {
            if (one == two && two == three) {
                return 0;
            }
            if (endOf(one, two, three) == NOBODY) {
                return 3;
            }
            return one == NOBODY || two == NOBODY || three == NOBODY ? 1 : 2;
        }

        int setsThatEnd(int rule, int end) {
            for (int judge = 0; judge < fight.judgeCount; judge++) {
                owners[judge] = ownerOf(cardBy(rule, judge));
            }
            int sets = 0;
            for (int a = 0; a < fight.judgeCount; a++) {
                for (int b = a + 1; b < fight.judgeCount; b++) {
                    for (int c = b + 1; c < fight.judgeCount; c++) {
                        sets += endOf(owners[a], owners[b], owners[c]) == end ? 1 : 0;
                    }
                }
            }
            return sets;
        }

        int judgesAgainstHardness(int rule) {
            int harder = ownerOf(fight.hardnessFor());
            int bits = 0;
            for (int judge = 0; judge < fight.judgeCount; judge++) {
                int owner = ownerOf(cardBy(rule, judge));
                if (harder != NOBODY && owner != NOBODY && owner != harder) {
                    bits |= 1 << judge;
                }
            }
            return bits;
        }
    }

    /** CLOSE ROUNDS of three JUDGES as coins. */
    private static final class Coins {
        private final Fight fight;
        private final Cards cards;
        // In how many ways the coins of the JUDGE i make his CARD that of 0, of 1, even: at i * 3 on.
        private final long[] ways = new long[9];
        private int howMany = 0;

        Coins(Fight fight, Cards cards) {
            this.fight = fight;
            this.cards = cards;
        }

        void toss(int rule, int a, int b, int c) {
            Arrays.fill(ways, 0L);
            howMany = 0;
            tossOne(rule, a, 0);
            tossOne(rule, b, 3);
            tossOne(rule, c, 6);
        }

        private void tossOne(int rule, int judge, int at) {
            int coins = 0;
            for (int round = 0; round < fight.rounds; round++) {
                coins += fight.isClose(judge, round) ? 1 : 0;
            }
            howMany += coins;
            // EVENS gives nothing for a CLOSE ROUND: its CARD is what no coin turns about.
            int stays = cards.cardBy(EVENS, judge);
            int coinWorth = rule == TEN ? 2 : 1;
            long waysToHeads = 1;
            for (int heads = 0; heads <= coins; heads++) {
                int card = stays + coinWorth * (2 * heads - coins);
                ways[at + Cards.ownerOf(card)] += waysToHeads;
                waysToHeads = waysToHeads * (coins - heads) / (heads + 1);
            }
        }

        /** Above (part 0) or below (part 1), in lowest terms. */
        long oddsOf(int end, int part) {
            long above = waysToEnd(end), below = 1L << howMany;
            // Only 2 divides what is below.
            for (int i = 0; i < howMany && above % 2 == 0; i++) {
                above /= 2;
                below /= 2;
            }
            return part == 0 ? above : below;
        }

        private long waysToEnd(int end) {
            long all = 0;
            for (int one = 0; one < 3; one++) {
                for (int two = 0; two < 3; two++) {
                    for (int three = 0; three < 3; three++) {
                        if (Cards.endOf(one, two, three) == end) {
                            all += ways[one] * ways[3 + two] * ways[6 + three];
                        }
                    }
                }
            }
            return all;
        }
    }

    /** Where three sit best. */
    private static final class Seats {
        private static final int ALL_PARTS = 5;

        private final Fight fight;
        // How many BLOWS in ROUNDS show to a SIDE, and the SEATS that SEE it, as bits.
        private final int[] shown = new int[Fight.SIDES];
        private final int[] watchers = new int[Fight.SIDES];
        // a, b, c, BLOWS seen by fewer than two, by none.
        private final int[] best = new int[ALL_PARTS];

        Seats(Fight fight) {
            this.fight = fight;
            for (int side = 0; side < Fight.SIDES; side++) {
                for (int seat = 0; seat < Fight.SIDES; seat++) {
                    watchers[side] |= Fight.isSeenFrom(seat, side) ? 1 << seat : 0;
                }
            }
        }

        void choose() {
            countShown();
            best[3] = Fight.MOST_BLOWS + 1;
            for (int a = 0; a < Fight.SIDES; a++) {
                for (int b = a + 1; b < Fight.SIDES; b++) {
                    for (int c = b + 1; c < Fight.SIDES; c++) {
                        tryThree(a, b, c);
                    }
                }
            }
        }

        private void countShown() {
            Arrays.fill(shown, 0);
            for (int k = 0; k < fight.blowCount; k++) {
                if (fight.isInRounds(k)) {
                    shown[fight.blowPart(k, Fight.SIDE)]++;
                }
            }
        }

        private void tryThree(int a, int b, int c) {
            int three = 1 << a | 1 << b | 1 << c;
            int byFew = 0, byNone = 0;
            for (int side = 0; side < Fight.SIDES; side++) {
                if (shown[side] > 0) {
                    int seers = Integer.bitCount(three & watchers[side]);
                    byFew += seers < 2 ? shown[side] : 0;
                    byNone += seers < 1 ? shown[side] : 0;
                }
            }
            if (byFew < best[3] || byFew == best[3] && byNone < best[4]) {
                best[0] = a;
                best[1] = b;
                best[2] = c;
                best[3] = byFew;
                best[4] = byNone;
            }
        }
    }

    /** POINTS by BUTTONS. */
    private static final class Buttons {
        private static final int NEVER = 1000;
        private static final int MADE = 2;
        private static final int MOST_PRESSES = Fight.MOST_BLOWS * Fight.MOST_JUDGES;

        private final Fight fight;
        private final Notes notes;
        // The BLOWS of a CORNER in a ROUND by second.
        private final int[] row = new int[Fight.MOST_BLOWS];
        private int rowCount = 0;
        // Of each JUDGE the place in row of the first press not used. A JUDGE presses in the order
        // of the BLOWS, and whatever he uses is his first one: one place a JUDGE tells all.
        private final int[] heads = new int[Fight.MOST_JUDGES];

        Buttons(Fight fight, Notes notes) {
            this.fight = fight;
            this.notes = notes;
        }

        int tellOf(int round, int q, int w, int what) {
            if (what < MADE) {
                return pointsOf(round, what, q, w);
            }
            int points = pointsOf(round, 0, q, w);
            int blows = rowCount;
            points += pointsOf(round, 1, q, w);
            blows += rowCount;
            return Math.max(0, what == MADE ? points - blows : blows - points);
        }

        private int pointsOf(int round, int corner, int q, int w) {
            fillRow(round, corner);
            for (int judge = 0; judge < fight.judgeCount; judge++) {
                heads[judge] = seenFrom(judge, 0);
            }
            int points = 0;
            int first = firstPresser();
            for (int used = 0; used < MOST_PRESSES && first >= 0; used++) {
                int until = secondOf(first) + w;
                if (pressersUntil(until) >= q) {
                    points++;
                    useUntil(until);
                } else {
                    useOne(first);
                }
                first = firstPresser();
            }
            return points;
        }

        private void fillRow(int round, int corner) {
            rowCount = 0;
            for (int k = 0; k < fight.blowCount; k++) {
                if (fight.blowPart(k, Fight.ROUND) == round && fight.blowPart(k, Fight.CORNER) == corner) {
                    putIntoRow(k);
                }
            }
        }

        private void putIntoRow(int k) {
            int at = rowCount;
            while (at > 0 && fight.blowPart(row[at - 1], Fight.SECOND) > fight.blowPart(k, Fight.SECOND)) {
                row[at] = row[at - 1];
                at--;
            }
            row[at] = k;
            rowCount++;
        }

        private int seenFrom(int judge, int from) {
            int at = from;
            while (at < rowCount && !fight.isSeen(judge, row[at])) {
                at++;
            }
            return at;
        }

        private int secondOf(int judge) {
            int head = heads[judge];
            return head < rowCount ? fight.blowPart(row[head], Fight.SECOND) + notes.delays[judge] : NEVER;
        }

        /** The JUDGE of the first press not used, or -1. */
        private int firstPresser() {
            int first = -1, earliest = NEVER;
            for (int judge = 0; judge < fight.judgeCount; judge++) {
                int second = secondOf(judge);
                if (second < earliest) {
                    first = judge;
                    earliest = second;
                }
            }
            return first;
        }

        private int pressersUntil(int until) {
            int pressers = 0;
            for (int judge = 0; judge < fight.judgeCount; judge++) {
                pressers += secondOf(judge) <= until ? 1 : 0;
            }
            return pressers;
        }

        private void useUntil(int until) {
            for (int judge = 0; judge < fight.judgeCount; judge++) {
                if (secondOf(judge) <= until) {
                    useOne(judge);
                }
            }
        }

        private void useOne(int judge) {
            heads[judge] = seenFrom(judge, heads[judge] + 1);
        }
    }

    /** What keep() keeps: DELAYS, TOLD cards, TENTHS. */
    private static final class Notes {
        private static final int NAMES = 6, NIGHTS = 24, UNTOLD = -21;

        private final int[] delays = new int[Fight.MOST_JUDGES];
        private final int[] margins = new int[NAMES * NIGHTS];
        private final int[] odds = {5, 5, 5, 5};

        Notes() {
            Arrays.fill(margins, UNTOLD);
        }

        void stopDelays() {
            Arrays.fill(delays, 0);
        }

        void copyFrom(Notes other) {
            System.arraycopy(other.delays, 0, delays, 0, delays.length);
            System.arraycopy(other.margins, 0, margins, 0, margins.length);
            System.arraycopy(other.odds, 0, odds, 0, odds.length);
        }

        int toldOf(int name, int night) {
            return margins[name * NIGHTS + night];
        }

        boolean isTold(int name, int night) {
            return toldOf(name, night) != UNTOLD;
        }

        void setTold(int name, int night, int margin) {
            margins[name * NIGHTS + night] = margin;
        }

        int howManyTold() {
            int all = 0;
            for (int i = 0; i < margins.length; i++) {
                all += margins[i] != UNTOLD ? 1 : 0;
            }
            return all;
        }

        int tenthsOf(int zero, int one) {
            return odds[zero * 2 + one];
        }

        void setTenths(int zero, int one, int v) {
            odds[zero * 2 + one] = v;
        }
    }

    /** TOLD cards laid beside one another. */
    private static final class Told {
        private final Notes notes;
        // Of two NAMES: how many are below 0, 0, above 0, in NIGHTS told of both.
        private final int[] ofOne = new int[3];
        private final int[] ofOther = new int[3];
        // The MARGINS of the others in one NIGHT, the lowest first.
        private final int[] row = new int[Notes.NAMES];
        private int rowCount = 0;

        Told(Notes notes) {
            this.notes = notes;
        }

        int alike(int a, int b, int what) {
            Arrays.fill(ofOne, 0);
            Arrays.fill(ofOther, 0);
            int both = 0, same = 0;
            for (int night = 0; night < Notes.NIGHTS; night++) {
                if (notes.isTold(a, night) && notes.isTold(b, night)) {
                    int one = signOf(notes.toldOf(a, night)), other = signOf(notes.toldOf(b, night));
                    both++;
                    same += one == other ? 1 : 0;
                    ofOne[one + 1]++;
                    ofOther[other + 1]++;
                }
            }
            if (what == 2) {
                return byChance(both);
            }
            return what == 0 ? same : both;
        }

        private int byChance(int both) {
            if (both == 0) {
                return NONE;
            }
            return (ofOne[0] * ofOther[0] + ofOne[1] * ofOther[1] + ofOne[2] * ofOther[2]) / both;
        }

        int leaning(int name, int what) {
            int sum = 0, nights = 0;
            for (int night = 0; night < Notes.NIGHTS; night++) {
                fillRow(name, night);
                if (notes.isTold(name, night) && rowCount > 0) {
                    sum += notes.toldOf(name, night) - meanOfRow();
                    nights++;
                }
            }
            return what == 0 ? sum : nights;
        }

        private int meanOfRow() {
            int sum = 0;
            for (int i = 0; i < rowCount; i++) {
                sum += row[i];
            }
            return rowCount == 0 ? 0 : sum / rowCount;
        }

        int farthestNight(int name) {
            int farthest = NONE, most = -1;
            for (int night = 0; night < Notes.NIGHTS; night++) {
                fillRow(name, night);
                if (notes.isTold(name, night) && rowCount >= 2) {
                    int off = Math.abs(notes.toldOf(name, night) - row[(rowCount - 1) / 2]);
                    if (off > most) {
                        farthest = night;
                        most = off;
                    }
                }
            }
            return farthest;
        }

        private void fillRow(int name, int night) {
            rowCount = 0;
            for (int other = 0; other < Notes.NAMES; other++) {
                if (other != name && notes.isTold(other, night)) {
                    putIntoRow(notes.toldOf(other, night));
                }
            }
        }

        private void putIntoRow(int margin) {
            int at = rowCount;
            while (at > 0 && row[at - 1] > margin) {
                row[at] = row[at - 1];
                at--;
            }
            row[at] = margin;
            rowCount++;
        }
    }

    /** OPEN and HIDDEN cards. */
    private static final class Game {
        private static final int MOST_ROUNDS = 12, MOST_AHEAD = 12, WON = 1000000, EVEN = 500000;
        private static final int MIDDLE = MOST_AHEAD + MOST_ROUNDS;

        private final Notes notes;
        // VALUES with some ROUNDS left and with one more, CORNER 0 being i - MIDDLE points ahead.
        private int[] values = new int[2 * MIDDLE + 1];
        private int[] before = new int[2 * MIDDLE + 1];
        private int value = 0, zeroPushes = 0, onePushes = 0;

        Game(Notes notes) {
            this.notes = notes;
        }

        int result(int what) {
            if (what == 0) {
                return value;
            }
            return what == 1 ? zeroPushes : onePushes;
        }

        void playOpen(int n, int m) {
            setEnds(n, m);
            for (int left = n - 1; left >= 0; left--) {
                for (int at = MIDDLE + m - left; at <= MIDDLE + m + left; at++) {
                    chooseOpen(values[at + 1], values[at - 1]);
                    before[at] = value;
                }
                stepBack();
            }
        }

        /** The VALUES behind the last ROUND, of all points ahead that n ROUNDS can make of m. */
        private void setEnds(int n, int m) {
            for (int ahead = m - n; ahead <= m + n; ahead++) {
                values[MIDDLE + ahead] = ahead == 0 ? EVEN : ahead > 0 ? WON : 0;
            }
        }

        private void stepBack() {
            int[] behind = values;
            values = before;
            before = behind;
        }

        private void chooseOpen(int ifWon, int ifLost) {
            answer(roundValue(notes.tenthsOf(0, 0), ifWon, ifLost), roundValue(notes.tenthsOf(0, 1), ifWon, ifLost));
            int held = value, answerToHeld = onePushes;
            answer(roundValue(notes.tenthsOf(1, 0), ifWon, ifLost), roundValue(notes.tenthsOf(1, 1), ifWon, ifLost));
            preferHeld(held, answerToHeld);
        }

        /** CORNER 1 takes the less, and holds if they are alike. */
        private void answer(int ifHeld, int ifPushed) {
            onePushes = ifPushed < ifHeld ? 1 : 0;
            value = Math.min(ifHeld, ifPushed);
        }

        /** CORNER 0 takes the greater, and holds if they are alike; pushing has just been answered. */
        private void preferHeld(int held, int answerToHeld) {
            if (value > held) {
                zeroPushes = 1;
            } else {
                zeroPushes = 0;
                onePushes = answerToHeld;
                value = held;
            }
        }

        private static int roundValue(int tenths, int ifWon, int ifLost) {
            return (tenths * ifWon + (10 - tenths) * ifLost) / 10;
        }

        void playHidden(int n, int m) {
            answer(fixedValue(n, m, notes.tenthsOf(0, 0)), fixedValue(n, m, notes.tenthsOf(0, 1)));
            int held = value, answerToHeld = onePushes;
            answer(fixedValue(n, m, notes.tenthsOf(1, 0)), fixedValue(n, m, notes.tenthsOf(1, 1)));
            preferHeld(held, answerToHeld);
        }

        private int fixedValue(int n, int m, int tenths) {
            setEnds(n, m);
            for (int left = n - 1; left >= 0; left--) {
                for (int at = MIDDLE + m - left; at <= MIDDLE + m + left; at++) {
                    before[at] = roundValue(tenths, values[at + 1], values[at - 1]);
                }
                stepBack();
            }
            return values[MIDDLE + m];
        }
    }
}
