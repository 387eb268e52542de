/**
 * The sentences of Terms 4, and promises 25 to 29, at their edges and on both sides of these. Above each test stands what
 * the document says.
 */
public final class OpenEdgeTest {
    private static final int BAD = -1, NO = -2, FULL = -3;
    private static final int WON = 1000000, EVEN = 500000, UNTOLD = -21;

    private final Due due = new Due();

    public static void main(String[] args) {
        OpenEdgeTest test = new OpenEdgeTest();
        test.tenthsAtTheirEnds();
        test.pointsInTheEnd();
        test.sureRounds();
        test.cutAtEachRound();
        test.greaterAndLess();
        test.holdsIfAlike();
        test.firstChoiceOnly();
        test.hiddenOnceForAll();
        test.roundsAndPointsAtTheirEnds();
        test.keepTwo();
        test.keepNone();
        test.backAsKeptLast();
        test.backOfDelays();
        test.keepOfWhat();
        test.refused();
        test.due.close();
    }

    private static ThreeCards odds(int heldHeld, int heldPushed, int pushedHeld, int pushedPushed) {
        ThreeCards x = new ThreeCards();
        x.tenths(0, 0, heldHeld);
        x.tenths(0, 1, heldPushed);
        x.tenths(1, 0, pushedHeld);
        x.tenths(1, 1, pushedPushed);
        return x;
    }

    private void both(ThreeCards x, int n, int m, int value, int zero, int one) {
        String game = "(" + n + ", " + m + ", ";
        due.is("open" + game + "0)", x.open(n, m, 0), value);
        due.is("open" + game + "1)", x.open(n, m, 1), zero);
        due.is("open" + game + "2)", x.open(n, m, 2), one);
        due.is("hidden" + game + "0)", x.hidden(n, m, 0), value);
        due.is("hidden" + game + "1)", x.hidden(n, m, 1), zero);
        due.is("hidden" + game + "2)", x.hidden(n, m, 2), one);
    }

    /** "TENTHS of (0 pushes or not, 1 pushes or not) (0 to 10; 5 at first)": each of four, at its ends and beyond. */
    private void tenthsAtTheirEnds() {
        ThreeCards x = new ThreeCards();
        for (int i = 0; i < 4; i++) {
            due.is("5 at first", x.tenths(i / 2, i % 2, 0), 5);
            due.is("0 they were", x.tenths(i / 2, i % 2, 10), 0);
            due.is("11", x.tenths(i / 2, i % 2, 11), BAD);
            due.is("-1", x.tenths(i / 2, i % 2, -1), BAD);
            due.is("10 they were", x.tenths(i / 2, i % 2, 2 * i), 10);
            due.is("zero 2", x.tenths(2, i % 2, 9), BAD);
            due.is("zero -1", x.tenths(-1, i % 2, 9), BAD);
            due.is("one 2", x.tenths(i / 2, 2, 9), BAD);
            due.is("one -1", x.tenths(i / 2, -1, 9), BAD);
        }
        for (int i = 0; i < 4; i++) {
            due.is("each as it was put", x.tenths(i / 2, i % 2, 5), 2 * i);
        }
    }

    /** "1000000 for more points than the other in the end, 500000 for as many": one more, as many, one fewer. */
    private void pointsInTheEnd() {
        int[] values = {0, 0, EVEN, WON, WON};
        for (int ahead = -2; ahead <= 2; ahead++) {
            both(odds(10, 10, 10, 10), 1, ahead - 1, values[ahead + 2], 0, 0);
            both(odds(0, 0, 0, 0), 1, ahead + 1, values[ahead + 2], 0, 0);
        }
        for (int n = 1; n <= 12; n++) {
            both(odds(10, 10, 10, 10), n, -n, EVEN, 0, 0);
            both(odds(0, 0, 0, 0), n, n, EVEN, 0, 0);
            if (n < 12) {
                both(odds(10, 10, 10, 10), n, -n - 1, 0, 0, 0);
                both(odds(0, 0, 0, 0), n, n + 1, WON, 0, 0);
            }
            both(odds(10, 10, 10, 10), n, -n + 1, WON, 0, 0);
            both(odds(0, 0, 0, 0), n, n - 1, 0, 0, 0);
        }
    }

    /** A game that is over counts its points to the end: no odds matter then. */
    private void sureRounds() {
        ThreeCards x = odds(3, 7, 6, 4);
        for (int n = 1; n < 12; n++) {
            both(x, n, n + 1, WON, 0, 0);
            both(x, n, -n - 1, 0, 0, 0);
            due.isTrue("not sure at " + n, x.open(n, n, 0) < WON && x.open(n, -n, 0) >= 0);
        }
        due.is("one ROUND behind", x.open(1, -1, 0), 200000);
        due.is("one ROUND ahead", x.open(1, 1, 0), 700000);
    }

    /** "(tenths times the one and (10 less tenths) times the other) by 10, cut". */
    private void cutAtEachRound() {
        int[] values = {50000, 5000, 500, 50, 5, 0, 0, 0, 0, 0, 0, 0};
        for (int n = 1; n <= 12; n++) {
            both(odds(1, 1, 1, 1), n, -n, values[n - 1], 0, 0);
        }
        // 750000, 875000, ..., each half of the one ahead and WON, cut.
        int[] ahead = {750000, 875000, 937500, 968750, 984375, 992187, 996093, 998046, 999023, 999511, 999755, 999877};
        int[] behind = {250000, 125000, 62500, 31250, 15625, 7812, 3906, 1953, 976, 488, 244, 122};
        for (int n = 1; n <= 12; n++) {
            both(new ThreeCards(), n, n, ahead[n - 1], 0, 0);
            both(new ThreeCards(), n, -n, behind[n - 1], 0, 0);
        }
    }

    /** "CORNER 0 takes the greater ..., CORNER 1 the less": each one tenth apart. */
    private void greaterAndLess() {
        both(odds(5, 5, 6, 6), 1, 0, 600000, 1, 0);
        both(odds(6, 6, 5, 5), 1, 0, 600000, 0, 0);
        both(odds(5, 4, 5, 5), 1, 0, 500000, 1, 0);
        both(odds(5, 4, 5, 4), 1, 0, 400000, 0, 1);
        both(odds(5, 4, 6, 5), 1, 0, 500000, 1, 1);
        both(odds(0, 10, 10, 0), 1, 0, 0, 0, 0);
        both(odds(10, 0, 10, 1), 1, 0, 100000, 1, 1);
        both(odds(9, 10, 10, 10), 1, 0, 1000000, 1, 0);
    }

    /** "(holds, if alike)": of CORNER 0 and of CORNER 1. */
    private void holdsIfAlike() {
        both(odds(5, 5, 5, 5), 1, 0, 500000, 0, 0);
        both(odds(7, 4, 4, 9), 1, 0, 400000, 0, 1);
        both(odds(4, 9, 7, 4), 1, 0, 400000, 0, 0);
        both(odds(4, 4, 4, 4), 7, 3, odds(4, 4, 4, 4).open(7, 3, 0), 0, 0);
        both(odds(0, 0, 3, 3), 1, 0, 300000, 1, 0);
        // Alike by the cut alone: nothing is left of the VALUES at 12 behind.
        both(odds(1, 0, 2, 1), 12, -12, 0, 0, 0);
    }

    /** "1 if CORNER 0 pushes in the next ROUND": what pays with one ROUND left need not with two. */
    private void firstChoiceOnly() {
        ThreeCards x = odds(5, 5, 9, 1);
        both(x, 1, 0, 500000, 0, 0);
        both(x, 1, 2, WON, 0, 0);
        both(x, 2, 3, WON, 0, 0);
        ThreeCards y = odds(5, 4, 6, 5);
        due.is("12 ROUNDS of even odds", y.open(12, 0, 0), new ThreeCards().open(12, 0, 0));
        due.is("pushes", y.open(12, 0, 1), 1);
        due.is("pushes, too", y.open(12, 0, 2), 1);
        due.is("sure now: holds", y.open(11, 12, 1), 0);
        due.is("sure now: holds", y.open(11, 12, 2), 0);
    }

    /** "HIDDEN: CORNER 0 chooses once for all ROUNDS, CORNER 1 sees that and chooses once". */
    private void hiddenOnceForAll() {
        // Alike with one ROUND left, whatever the odds are.
        for (int i = 0; i < 625; i++) {
            ThreeCards x = odds(i % 5 * 2, i / 5 % 5 * 2 + 1, i / 25 % 5 * 2, i / 125 * 2 + 1);
            for (int what = 0; what < 3; what++) {
                due.is("one ROUND left", x.hidden(1, 0, what), x.open(1, 0, what));
            }
        }
        // 8 of 10 in each ROUND: of two 0.64 won and 0.32 even.
        ThreeCards x = odds(8, 9, 0, 0);
        due.is("two ROUNDS", x.hidden(2, 0, 0), 640000 + 160000);
        due.is("holds", x.hidden(2, 0, 1), 0);
        due.is("holds", x.hidden(2, 0, 2), 0);
        due.is("0.512 and 0.384 with three", x.hidden(3, 0, 0), 896000);
        due.is("12 behind", x.hidden(12, -12, 0), odds(8, 8, 8, 8).open(12, -12, 0));
    }

    /** "n ROUNDS (1 to 12) are left, CORNER 0 is m points ahead (-12 to 12)"; what is 0 to 2. */
    private void roundsAndPointsAtTheirEnds() {
        ThreeCards x = odds(3, 7, 6, 4);
        int[] rounds = {Integer.MIN_VALUE, -1, 0, 1, 12, 13, Integer.MAX_VALUE};
        int[] points = {Integer.MIN_VALUE, -13, -12, 0, 12, 13, Integer.MAX_VALUE};
        for (int n : rounds) {
            for (int m : points) {
                for (int what = -1; what <= 3; what++) {
                    boolean good = n >= 1 && n <= 12 && m >= -12 && m <= 12 && what >= 0 && what <= 2;
                    due.isTrue("open(" + n + ", " + m + ", " + what + ")", good == (x.open(n, m, what) != BAD));
                    due.isTrue("hidden(" + n + ", " + m + ", " + what + ")", good == (x.hidden(n, m, what) != BAD));
                }
            }
        }
    }

    /** "2 at most"; "KEPT: how many. FULL": the first, the second, the third; room again behind back(). */
    private void keepTwo() {
        ThreeCards x = new ThreeCards();
        due.is("one", x.keep(), 1);
        due.is("two", x.keep(), 2);
        due.is("not three", x.keep(), FULL);
        due.is("not three", x.keep(), FULL);
        due.is("two", x.count(5), 2);
        due.is("one left", x.back(), 1);
        due.is("two again", x.keep(), 2);
        due.is("not three", x.keep(), FULL);
        due.is("one left", x.back(), 1);
        due.is("none left", x.back(), 0);
        due.is("one again", x.keep(), 1);
    }

    /** "how many are left. NO": of nothing KEPT. */
    private void keepNone() {
        ThreeCards x = new ThreeCards();
        x.tenths(0, 0, 9);
        x.tell(0, 0, 3);
        x.delay(0, 3);
        due.is("nothing KEPT", x.back(), NO);
        due.is("nothing changes", x.tenths(0, 0, 9), 9);
        due.is("nothing changes", x.tell(0, 0, 3), 3);
        due.is("nothing changes", x.delay(0, 3), 3);
        x.keep();
        due.is("none left", x.back(), 0);
        due.is("nothing KEPT", x.back(), NO);
        due.is("nothing KEPT", x.back(), NO);
        due.is("none", x.count(5), 0);
    }

    /** "As KEPT last": the second, then the first; a keep() that was FULL kept nothing. */
    private void backAsKeptLast() {
        ThreeCards x = new ThreeCards();
        for (int i = 1; i <= 3; i++) {
            x.tenths(1, 0, i);
            x.tell(5, 23, i);
            x.delay(2, i);
            due.is("keep", x.keep(), i <= 2 ? i : FULL);
        }
        due.is("3 now", x.tenths(1, 0, 3), 3);
        for (int i = 2; i >= 1; i--) {
            due.is("left", x.back(), i - 1);
            due.is("TENTHS of " + i, x.tenths(1, 0, 9), i);
            due.is("MARGIN of " + i, x.tell(5, 23, UNTOLD), i);
            due.is("DELAY of " + i, x.delay(2, 9), i);
        }
    }

    /** "(DELAYS of JUDGES there are)": of each of three, of each of eight. */
    private void backOfDelays() {
        for (int judges : new int[] {3, 8}) {
            ThreeCards x = Due.laid(Pair.JUDGE.repeat(judges));
            for (int judge = 0; judge < judges; judge++) {
                x.delay(judge, 9 - judge);
            }
            x.keep();
            for (int judge = 0; judge < judges; judge++) {
                x.delay(judge, 0);
            }
            due.is("back", x.back(), 0);
            for (int judge = 0; judge < judges; judge++) {
                due.is("DELAY of " + judge, x.delay(judge, 0), 9 - judge);
            }
            due.is("no more JUDGES", x.delay(judges, 0), BAD);
        }
    }

    /** "KEPT are DELAYS, TOLD cards, TENTHS": a NAME untold comes back told, a told one untold; THE TEXT and LAID do not. */
    private void keepOfWhat() {
        ThreeCards x = Due.laid("r3;" + Pair.THREE);
        x.tell(0, 0, -20);
        x.tell(1, 1, 20);
        x.keep();
        x.tell(0, 0, UNTOLD);
        x.tell(5, 23, 7);
        x.tell(1, 1, 0);
        due.is("bytes", Due.put(x, "r5;"), 54);
        due.is("back", x.back(), 0);
        due.is("two TOLD", x.count(4), 2);
        due.is("told again", x.tell(0, 0, 0), -20);
        due.is("as it was", x.tell(1, 1, 0), 20);
        due.is("untold again", x.tell(5, 23, 0), UNTOLD);
        due.is("THE TEXT is not KEPT", x.count(3), 54);
        due.is("LAID is not KEPT", x.count(0), 3);
        ThreeCards fresh = new ThreeCards();
        fresh.keep();
        Due.put(fresh, "r3;" + Pair.THREE);
        due.is("laid", fresh.lay(), 3);
        due.is("nothing KEPT", fresh.back(), NO);
        due.is("the laid one", fresh.count(0), 3);
    }

    /** What answers BAD, NO or FULL changes nothing. */
    private void refused() {
        for (int kept = 0; kept <= 2; kept++) {
            Pair pair = Pair.laid(Pair.FEWEST).noted(kept);
            ThreeCards x = pair.x;
            due.is("tenths BAD", x.tenths(0, 0, 11), BAD);
            due.is("tenths BAD", x.tenths(0, 2, 1), BAD);
            due.is("tenths BAD", x.tenths(2, 0, 1), BAD);
            due.is("open BAD", x.open(0, 0, 0), BAD);
            due.is("hidden BAD", x.hidden(13, 0, 0), BAD);
            if (kept == 0) {
                due.is("back NO", x.back(), NO);
            }
            if (kept == 2) {
                due.is("keep FULL", x.keep(), FULL);
            }
            State.same(due, "open cards refused with " + kept, pair);
        }
    }
}
