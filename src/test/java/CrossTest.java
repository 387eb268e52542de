import java.util.function.ToLongFunction;

/**
 * Runs of calls with numbers from a fixed sequence, on ThreeCards and on Plain side by side: each answer must be the
 * same, and so must the whole state behind it.
 */
public final class CrossTest {
    private static final int RUNS = 2400;
    // An object is used for 512 calls: what comes at random ends here, so that State has room behind it.
    private static final int RANDOM_CALLS = 270;
    private static final int CALLS_BEFORE_ANOTHER_TEXT = 90;
    private static final int MOST_CALLS = 512;

    private final Due due = new Due();
    private long seed = 20261119;
    private int calls = 0;

    public static void main(String[] args) {
        CrossTest test = new CrossTest();
        for (int run = 0; run < RUNS; run++) {
            test.run(run);
        }
        test.due.close();
    }

    /** A number from low to high; the sequence is the same each time. */
    private int any(int low, int high) {
        seed = seed * 6364136223846793005L + 1442695040888963407L;
        return low + (int) ((seed >>> 33) % (high - low + 1));
    }

    /** A number from low to high, now and then one just outside. */
    private int near(int low, int high) {
        int chance = any(0, 39);
        return chance == 0 ? low - 1 : chance == 1 ? high + 1 : any(low, high);
    }

    private String item() {
        int kind = any(0, 19);
        if (kind < 11) {
            int round = any(0, 3) == 0 ? any(0, 11) : any(0, 3);
            return numbers("b", round, any(0, 3) == 0 ? any(165, 179) : any(20, 30), any(0, 1), any(1, 9), any(0, 11));
        }
        if (kind < 13) {
            return numbers("f", any(0, 11), any(0, 1), any(0, 9));
        }
        if (kind < 15) {
            return numbers("k", any(0, 11), any(0, 1));
        }
        if (kind < 17) {
            return numbers("d", any(0, 11), any(0, 1));
        }
        return kind == 17 ? numbers("h", any(0, 1), any(0, 9)) : numbers("r", any(1, 12));
    }

    private String judge() {
        int near = any(0, 2) == 0 ? any(0, 99) : any(0, 12);
        return numbers("j", any(0, 11), any(0, 9), any(0, 3), any(0, 2) == 0 ? 20 : any(0, 40), any(1, 9), any(0, 2), near);
    }

    private String numbers(String letter, int... all) {
        StringBuilder item = new StringBuilder(letter);
        for (int i = 0; i < all.length; i++) {
            item.append(i == 0 ? "" : ",");
            item.append(any(0, 30) == 0 ? String.format("%03d", all[i]) : String.valueOf(all[i]));
        }
        return item.append(';').toString();
    }

    private String text() {
        StringBuilder text = new StringBuilder();
        int items = any(0, 35);
        for (int i = 0; i < items; i++) {
            text.append(item());
        }
        int judges = any(0, 9) == 0 ? any(0, 9) : any(3, 8);
        for (int i = 0; i < judges; i++) {
            text.insert(text.indexOf(";", any(0, text.length())) + 1, judge());
        }
        if (any(0, 3) == 0 && text.length() > 0) {
            text.setCharAt(any(0, text.length() - 1), "0123456789,;rbfkdhjx ".charAt(any(0, 20)));
        }
        return text.toString();
    }

    private void both(int run, String call, ToLongFunction<ThreeCards> cards, ToLongFunction<Plain> plain,
            ThreeCards x, Plain y) {
        calls++;
        due.is("run " + run + ": " + call, cards.applyAsLong(x), plain.applyAsLong(y));
    }

    private void putText(int run, ThreeCards x, Plain y) {
        both(run, "wipe()", ThreeCards::wipe, Plain::wipe, x, y);
        String letters = text();
        for (int from = 0; from < letters.length(); ) {
            int n = Math.min(any(1, 8), letters.length() - from);
            long v = any(0, 1) == 0 ? 0 : -1L;
            for (int i = 0; i < n; i++) {
                v = v << 8 | letters.charAt(from + i);
            }
            long bytes = v;
            both(run, "write(" + n + ", " + v + ")", c -> c.write(n, bytes), p -> p.write(n, bytes), x, y);
            from += n;
        }
        both(run, "fault() of " + letters, ThreeCards::fault, Plain::fault, x, y);
        both(run, "lay() of " + letters, ThreeCards::lay, Plain::lay, x, y);
    }

    private void run(int run) {
        ThreeCards x = new ThreeCards();
        Plain y = new Plain();
        calls = 0;
        if (any(0, 9) > 0) {
            putText(run, x, y);
        }
        while (calls < RANDOM_CALLS) {
            switch (any(0, 5)) {
                case 0: callFight(run, x, y); break;
                case 1: callCards(run, x, y); break;
                case 2: callThree(run, x, y); break;
                case 3: callButtons(run, x, y); break;
                case 4: callTold(run, x, y); break;
                default: callOpen(run, x, y); break;
            }
            if (calls < CALLS_BEFORE_ANOTHER_TEXT && any(0, 9) == 0) {
                putText(run, x, y);
            }
        }
        int before = due.checks();
        if (run % 2 == 0) {
            State.fight(due, "run " + run, new Pair(x, y));
        } else {
            State.notes(due, "run " + run, new Pair(x, y));
        }
        due.isTrue("run " + run + " has 512 calls at most", calls + due.checks() - before <= MOST_CALLS);
    }

    private void callFight(int run, ThreeCards x, Plain y) {
        int judge = near(0, y.count(1) - 1);
        int round = near(0, y.count(0) - 1);
        int corner = near(0, 1);
        int k = near(0, Math.max(0, y.count(2) - 1));
        int what = near(0, 5);
        String at = "(" + judge + ", " + round + ")";
        both(run, "blow(" + k + ", " + what + ")", c -> c.blow(k, what), p -> p.blow(k, what), x, y);
        both(run, "sum" + at + corner, c -> c.sum(judge, round, corner), p -> p.sum(judge, round, corner), x, y);
        both(run, "lead" + at, c -> c.lead(judge, round), p -> p.lead(judge, round), x, y);
        both(run, "close" + at, c -> c.close(judge, round), p -> p.close(judge, round), x, y);
    }

    private void callCards(int run, ThreeCards x, Plain y) {
        int rule = near(0, 3);
        int judge = near(0, y.count(1) - 1);
        int round = near(0, y.count(0) - 1);
        int corner = near(0, 1);
        String at = "(" + rule + ", " + judge + ")";
        both(run, "margin" + at + round, c -> c.margin(rule, judge, round), p -> p.margin(rule, judge, round), x, y);
        both(run, "card" + at, c -> c.card(rule, judge), p -> p.card(rule, judge), x, y);
        both(run, "points" + at + corner, c -> c.points(rule, judge, corner), p -> p.points(rule, judge, corner), x, y);
        int[] sums = new int[3];
        for (int i = 0; i < 3; i++) {
            sums[i] = any(0, 3) == 0 ? near(0, 999) : y.points(rule, i, corner);
        }
        both(run, "added(" + rule + ", " + corner + ")", c -> c.added(rule, corner, sums[0], sums[1], sums[2]),
            p -> p.added(rule, corner, sums[0], sums[1], sums[2]), x, y);
    }

    private void callThree(int run, ThreeCards x, Plain y) {
        int rule = near(0, 3);
        int a = near(0, y.count(1) - 1);
        int b = any(0, 9) == 0 ? a : (a + any(1, 2)) % y.count(1);
        int c0 = any(0, 9) == 0 ? any(0, 7) : Math.floorMod(Math.max(a, b) + 1, y.count(1));
        int what = near(0, 1);
        int end = near(0, 2);
        String three = "(" + rule + ", " + a + ", " + b + ", " + c0 + ", ";
        both(run, "end" + three + what, c -> c.end(rule, a, b, c0, what), p -> p.end(rule, a, b, c0, what), x, y);
        both(run, "coins" + three + end + ", " + what, c -> c.coins(rule, a, b, c0, end, what),
            p -> p.coins(rule, a, b, c0, end, what), x, y);
        both(run, "others(" + rule + ", " + end + ")", c -> c.others(rule, end), p -> p.others(rule, end), x, y);
        both(run, "men(" + rule + ")", c -> c.men(rule), p -> p.men(rule), x, y);
        int seat = near(0, 4);
        both(run, "seats(" + seat + ")", c -> c.seats(seat), p -> p.seats(seat), x, y);
    }

    private void callButtons(int run, ThreeCards x, Plain y) {
        int judge = near(0, y.count(1) - 1);
        int d = near(0, 9);
        both(run, "delay(" + judge + ", " + d + ")", c -> c.delay(judge, d), p -> p.delay(judge, d), x, y);
        int round = near(-1, y.count(0) - 1);
        int q = any(0, 3) == 0 ? near(1, 8) : any(1, 3);
        int w = near(0, 9);
        int what = near(0, 3);
        both(run, "buttons(" + round + ", " + q + ", " + w + ", " + what + ")", c -> c.buttons(round, q, w, what),
            p -> p.buttons(round, q, w, what), x, y);
    }

    private void callTold(int run, ThreeCards x, Plain y) {
        int name = near(0, 5);
        for (int i = 0; i < 6; i++) {
            int who = near(0, 5);
            int night = any(0, 4) == 0 ? near(0, 23) : any(0, 4);
            int margin = any(0, 3) == 0 ? any(-2, 0) : near(-21, 20);
            both(run, "tell(" + who + ", " + night + ", " + margin + ")", c -> c.tell(who, night, margin),
                p -> p.tell(who, night, margin), x, y);
        }
        int other = near(0, 5);
        int what = near(0, 2);
        both(run, "same(" + name + ", " + other + ", " + what + ")", c -> c.same(name, other, what),
            p -> p.same(name, other, what), x, y);
        both(run, "lean(" + name + ", " + what + ")", c -> c.lean(name, what), p -> p.lean(name, what), x, y);
        both(run, "unlike(" + name + ")", c -> c.unlike(name), p -> p.unlike(name), x, y);
    }

    private void callOpen(int run, ThreeCards x, Plain y) {
        int zero = near(0, 1);
        int one = near(0, 1);
        int v = near(0, 10);
        both(run, "tenths(" + zero + ", " + one + ", " + v + ")", c -> c.tenths(zero, one, v), p -> p.tenths(zero, one, v),
            x, y);
        int n = near(1, 12);
        int m = any(0, 3) == 0 ? near(-12, 12) : any(-2, 2);
        int what = near(0, 2);
        String game = "(" + n + ", " + m + ", " + what + ")";
        both(run, "open" + game, c -> c.open(n, m, what), p -> p.open(n, m, what), x, y);
        both(run, "hidden" + game, c -> c.hidden(n, m, what), p -> p.hidden(n, m, what), x, y);
        int chance = any(0, 9);
        if (chance < 2) {
            both(run, "keep()", ThreeCards::keep, Plain::keep, x, y);
        } else if (chance < 4) {
            both(run, "back()", ThreeCards::back, Plain::back, x, y);
        }
    }
}
