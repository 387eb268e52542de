/**
 * The sentences of Terms 2, and promises 10 to 17, at their edges and on both sides of these. Above each test stands what
 * the document says.
 */
public final class CardsEdgeTest {
    private static final int BAD = -1, BAD_LEAD = -100001;
    private static final int TEN = 0, HALVES = 1, EVENS = 2, MILES = 3;
    private static final String JUDGE = Pair.JUDGE;
    private static final String THREE = Pair.THREE;

    private final Due due = new Due();

    public static void main(String[] args) {
        CardsEdgeTest test = new CardsEdgeTest();
        test.aboveBelowZero();
        test.lastRoundAhead();
        test.lastRoundAheadOfAll();
        test.lastRoundAheadByThatJudge();
        test.knockdowns();
        test.eightAtMost();
        test.halvesAndEvensAtG();
        test.halvesWithoutLead();
        test.milesAtFives();
        test.milesAtTwenty();
        test.pointsTaken();
        test.greatestCards();
        test.pointsAtTheirEnds();
        test.ends();
        test.endNeedsThree();
        test.others();
        test.men();
        test.menOfEvenHardness();
        test.coinsAtG();
        test.coinsFewestAndMost();
        test.coinsInLowestTerms();
        test.coinsAddUpToOne();
        test.coinsKeepKnockdowns();
        test.coinsOfTheThreeAlone();
        test.coinsPart();
        test.seatsWithoutBlows();
        test.seatsOfOneSide();
        test.seatsTheFirst();
        test.seatsOfAllSetsOfSides();
        test.rulesThatAreNone();
        test.due.close();
    }

    /** Three JUDGES or more whose LEAD in each ROUND is what is given, CLOSE up to near. */
    private static ThreeCards leaning(String items, int near, int... leads) {
        StringBuilder text = new StringBuilder(items);
        for (int lead : leads) {
            text.append("j0,0,0,").append(20 + lead).append(",1,0,").append(near).append(';');
        }
        return Due.laid(text.toString());
    }

    private void margins(ThreeCards x, int round, int ten, int halves, int evens, int miles) {
        int[] want = {ten, halves, evens, miles};
        for (int rule = TEN; rule <= MILES; rule++) {
            due.is("margin(" + rule + ", 0, " + round + ")", x.margin(rule, 0, round), want[rule]);
        }
    }

    /** "2, if LEAD is above 0, -2, if it is below; if it is 0 ... 2 without one". */
    private void aboveBelowZero() {
        margins(leaning("r1;", 0, 1, 0, 0), 0, 2, 2, 2, 1);
        margins(leaning("r1;", 0, -1, 0, 0), 0, -2, -2, -2, -1);
        margins(leaning("r1;", 0, 0, 0, 0), 0, 2, 1, 0, 0);
        ThreeCards all = leaning("", 0, 0, 0, 0);
        for (int round = 0; round < 12; round++) {
            margins(all, round, 2, 1, 0, 0);
        }
    }

    /** "if it is 0, as the last ROUND ahead by that JUDGE whose LEAD is not 0": the last, not the first, not a later one. */
    private void lastRoundAhead() {
        // LEAD 0, 3, 0, -3, 0, 0, 1, -1, 0, 5.
        String blows = "b1,0,0,3,0;b3,0,1,3,0;b6,0,0,1,0;b7,0,1,1,0;b9,0,0,5,0;";
        ThreeCards x = Due.laid("r10;" + blows + THREE);
        int[] ten = {2, 2, 2, -2, -2, -2, 2, -2, -2, 2};
        for (int round = 0; round < 10; round++) {
            due.is("ROUND " + round, x.margin(TEN, 0, round), ten[round]);
        }
        ThreeCards down = Due.laid("r3;b0,0,1,3,0;k0,1;k0,1;k0,1;k1,1;" + THREE);
        due.is("-2 and 6", down.margin(TEN, 0, 0), 4);
        due.is("as LEAD, not as MARGIN: -2 and 2", down.margin(TEN, 0, 1), 0);
        due.is("-2", down.margin(TEN, 0, 2), -2);
    }

    /** The last ROUND ahead may be eleven ahead, or in none of N. */
    private void lastRoundAheadOfAll() {
        ThreeCards x = Due.laid("b0,0,1,1,0;" + THREE);
        for (int round = 0; round < 12; round++) {
            due.is("ROUND " + round + " as ROUND 0", x.margin(TEN, 2, round), -2);
        }
        ThreeCards late = Due.laid("b11,0,1,1,0;" + THREE);
        for (int round = 0; round < 12; round++) {
            due.is("ROUND " + round + " ahead of the only one", late.margin(TEN, 2, round), round == 11 ? -2 : 2);
        }
    }

    /** "by that JUDGE": what the others saw does not matter. */
    private void lastRoundAheadByThatJudge() {
        ThreeCards x = Due.laid("r2;b0,0,1,1,0;" + JUDGE + "j6,1,0,20,1,0,0;" + "j0,0,0,20,1,0,0;");
        int[] ten = {-2, 2, 2};
        for (int judge = 0; judge < 3; judge++) {
            due.is("JUDGE " + judge, x.margin(TEN, judge, 1), ten[judge]);
        }
    }

    /** "2 more for each time CORNER 1 was knocked down, 2 less for each time CORNER 0 was"; MILES: 4. */
    private void knockdowns() {
        for (int zero = 0; zero <= 3; zero++) {
            for (int one = 0; zero + one <= 3; one++) {
                int off = one - zero;
                String items = "r1;" + "k0,0;".repeat(zero) + "k0,1;".repeat(one);
                margins(leaning(items, 4, 4, 0, 0), 0, 2 + 2 * off, 1 + 2 * off, 2 * off, 1 + 4 * off);
                margins(leaning(items, 4, -5, 0, 0), 0, -2 + 2 * off, -2 + 2 * off, -2 + 2 * off, -2 + 4 * off);
            }
        }
    }

    /** "8 at most, -8 at least": three knockdowns reach it, and nothing beyond. */
    private void eightAtMost() {
        for (int downs = 0; downs <= 3; downs++) {
            due.is("8 at most", leaning("r1;" + "k0,1;".repeat(downs), 0, 20, 0, 0).margin(TEN, 0, 0), 2 + 2 * downs);
            due.is("-8 at least", leaning("r1;" + "k0,0;".repeat(downs), 0, -20, 0, 0).margin(TEN, 0, 0), -2 - 2 * downs);
        }
    }

    /** "where the ROUND is CLOSE half of the 2, -2 (1, -1)"; "0 in place of the 2, -2": G off 0, and one more. */
    private void halvesAndEvensAtG() {
        for (int near = 1; near < 20; near++) {
            margins(leaning("r1;", near, near, 0, 0), 0, 2, 1, 0, near / 5 + 1);
            margins(leaning("r1;", near, near + 1, 0, 0), 0, 2, 2, 2, (near + 1) / 5 + 1);
            margins(leaning("r1;", near, -near, 0, 0), 0, -2, -1, 0, -near / 5 - 1);
            margins(leaning("r1;", near, -near - 1, 0, 0), 0, -2, -2, -2, -(near + 1) / 5 - 1);
        }
    }

    /** "1 HALVES: as TEN": LEAD 0 is CLOSE at G 0, too, and its half is that of the last ROUND ahead. */
    private void halvesWithoutLead() {
        ThreeCards x = Due.laid("r4;b1,0,1,3,0;b3,0,0,1,0;k2,0;" + THREE);
        margins(x, 0, 2, 1, 0, 0);
        margins(x, 1, -2, -2, -2, -1);
        margins(x, 2, -4, -3, -2, -4);
        margins(x, 3, 2, 2, 2, 1);
    }

    /** "LEAD by 5, cut, and one more away from 0 (if LEAD is not 0)". */
    private void milesAtFives() {
        int[] miles = {0, 1, 1, 1, 1, 2, 2, 2, 2, 2, 3, 3, 3, 3, 3, 4, 4, 4, 4, 4, 5};
        for (int lead = 0; lead <= 20; lead++) {
            due.is("LEAD " + lead, leaning("r1;", 99, lead, 0, 0).margin(MILES, 0, 0), miles[lead]);
            due.is("LEAD -" + lead, leaning("r1;", 99, -lead, 0, 0).margin(MILES, 0, 0), -miles[lead]);
        }
    }

    /** "20 at most, -20 at least; knockdowns as in TEN (4 more, 4 less, without its bounds)". */
    private void milesAtTwenty() {
        int[] leads = {89, 90, 94, 95, 99, 100, 101};
        int[] miles = {18, 19, 19, 20, 20, 20, 20};
        for (int downs = 0; downs <= 3; downs++) {
            for (int i = 0; i < leads.length; i++) {
                int more = leads[i] - 81;
                String zero = "r1;b0,0,0,9,0;" + "k0,1;".repeat(downs);
                String one = "r1;b0,0,1,9,0;" + "k0,0;".repeat(downs);
                ThreeCards x = Due.laid(zero + ("j0,9,0," + (20 + more) + ",1,0,0;").repeat(3));
                ThreeCards y = Due.laid(one + ("j0,9,0," + (20 - more) + ",1,0,0;").repeat(3));
                due.is("LEAD " + leads[i], x.lead(0, 0), leads[i]);
                due.is("MILES of " + leads[i], x.margin(MILES, 0, 0), miles[i] + 4 * downs);
                due.is("MILES of -" + leads[i], y.margin(MILES, 0, 0), -miles[i] - 4 * downs);
            }
        }
        String far = "r1;" + "b0,170,0,9,0;".repeat(30) + "j0,9,0,40,9,0,99;".repeat(3);
        due.is("MILES of 21890", Due.laid(far).margin(MILES, 0, 0), 20);
        due.is("knocked down at 21890", Due.laid(far + "k0,0;k0,0;k0,0;").margin(MILES, 0, 0), 8);
    }

    /** "2 less for each point taken of CORNER 0, 2 more for each of 1": none to three of a ROUND, by each RULE. */
    private void pointsTaken() {
        for (int zero = 0; zero <= 3; zero++) {
            for (int one = 0; zero + one <= 3; one++) {
                ThreeCards x = leaning("r2;" + "d1,0;".repeat(zero) + "d1,1;".repeat(one), 3, 3, 4, -4);
                int[] first = {4, 2, 0, 2};
                int[] second = {4, 4, 4, 2};
                for (int rule = TEN; rule <= MILES; rule++) {
                    due.is("CARD of the first", x.card(rule, 0), first[rule] + 2 * (one - zero));
                    due.is("CARD of the second", x.card(rule, 1), second[rule] + 2 * (one - zero));
                    due.is("CARD of the third", x.card(rule, 2), -second[rule] + 2 * (one - zero));
                    due.is("no MARGIN of it", x.margin(rule, 1, 1), second[rule] / 2);
                }
                due.is("POINTS of 0", x.points(TEN, 1, 0), 40 - 2 * zero);
                due.is("POINTS of 1", x.points(TEN, 1, 1), 36 - 2 * one);
            }
        }
    }

    private static String ofAllRounds(String letter, int corner) {
        StringBuilder items = new StringBuilder();
        for (int i = 0; i < 36; i++) {
            items.append(letter).append(i / 3).append(',').append(corner).append(';');
        }
        return items.toString();
    }

    /** Three knockdowns and three points taken in each of 12 ROUNDS: the most of a CARD, and the least. */
    private void greatestCards() {
        ThreeCards most = leaning(ofAllRounds("k", 1) + ofAllRounds("d", 1), 0, 20, 20, 20);
        due.is("TEN", most.card(TEN, 2), 12 * 8 + 72);
        due.is("MILES", most.card(MILES, 2), 12 * 17 + 72);
        due.is("POINTS of 0", most.points(TEN, 2, 0), 240);
        due.is("POINTS of 1", most.points(TEN, 2, 1), 240 - 96 - 72);
        ThreeCards least = leaning(ofAllRounds("k", 0) + ofAllRounds("d", 0), 0, -20, -20, -20);
        due.is("TEN", least.card(TEN, 2), -12 * 8 - 72);
        due.is("MILES", least.card(MILES, 2), -12 * 17 - 72);
        due.is("POINTS of 0", least.points(TEN, 2, 0), 240 - 96 - 72);
        due.is("POINTS of 1", least.points(TEN, 2, 1), 240);
        ThreeCards minusOne = leaning("r1;", 9, -9, -9, -9);
        due.is("-1 is a CARD", minusOne.card(HALVES, 0), -1);
        due.is("-1 is a MARGIN", minusOne.margin(HALVES, 0, 0), -1);
    }

    /** "20 for each ROUND less what its MARGIN is for the other, less 2 for each point taken" (TEN, HALVES, EVENS). */
    private void pointsAtTheirEnds() {
        ThreeCards x = leaning("r1;k0,0;k0,0;k0,0;d0,0;d0,0;d0,0;", 1, -1, 1, -2);
        // CLOSE, CLOSE, not CLOSE: -2 or -1 or 0, 2 or 1 or 0, -2; each with -6 of knockdowns and 6 taken.
        int[][] zero = {{6, 10, 6}, {7, 9, 6}, {8, 8, 6}};
        for (int rule = TEN; rule <= EVENS; rule++) {
            for (int judge = 0; judge < 3; judge++) {
                due.is("POINTS of 0 by " + judge, x.points(rule, judge, 0), zero[rule][judge]);
                due.is("POINTS of 1 by " + judge, x.points(rule, judge, 1), 20);
            }
        }
        ThreeCards even = leaning("r1;", 0, 0, 0, 0);
        due.is("an even MARGIN is for nobody", even.points(EVENS, 0, 0) * 100 + even.points(EVENS, 0, 1), 2020);
        due.is("a half", even.points(HALVES, 0, 0) * 100 + even.points(HALVES, 0, 1), 2019);
        due.is("12 ROUNDS", new ThreeCards().points(EVENS, 2, 1), 240);
        due.is("no POINTS by MILES", even.points(MILES, 0, 0), BAD);
    }

    /** "who has two CARDS or three has it (0, 1); else none (2). KIND: 0 ..., 1 ..., 2 ..., 3 else". */
    private void ends() {
        // The CARDS of three by MILES, END, KIND.
        int[][] all = {
            {1, 1, 1, 0, 0}, {-1, -1, -1, 1, 0}, {0, 0, 0, 2, 0}, {1, 1, 0, 0, 1}, {-1, -1, 0, 1, 1}, {1, 1, -1, 0, 2},
            {-1, -1, 1, 1, 2}, {1, 0, 0, 2, 3}, {-1, 0, 0, 2, 3}, {1, -1, 0, 2, 3}
        };
        int[][] orders = {{0, 1, 2}, {0, 2, 1}, {1, 0, 2}, {1, 2, 0}, {2, 0, 1}, {2, 1, 0}};
        for (int[] of : all) {
            ThreeCards x = leaning("r1;", 0, of[0], of[1], of[2]);
            for (int[] o : orders) {
                due.is("END", x.end(MILES, o[0], o[1], o[2], 0), of[3]);
                due.is("KIND", x.end(MILES, o[0], o[1], o[2], 1), of[4]);
            }
            for (int end = 0; end < 3; end++) {
                due.is("OTHERS of one set", x.others(MILES, end), end == of[3] ? 1 : 0);
            }
        }
    }

    /** "by three JUDGES (unlike)": each of the three from the first to the last one, and no other, and no one twice. */
    private void endNeedsThree() {
        for (int judges : new int[] {3, 8}) {
            ThreeCards x = Due.laid(JUDGE.repeat(judges));
            for (int a = -1; a <= judges; a++) {
                for (int b = -1; b <= judges; b++) {
                    boolean good = a >= 0 && a < judges && b >= 0 && b < judges && a != b && a != 1 && b != 1;
                    due.is("end(0, " + a + ", " + b + ", 1)", x.end(TEN, a, b, 1, 0), good ? 0 : BAD);
                    due.is("end(0, " + a + ", 1, " + b + ")", x.end(TEN, a, 1, b, 0), good ? 0 : BAD);
                    due.is("end(0, 1, " + a + ", " + b + ")", x.end(TEN, 1, a, b, 1), good ? 0 : BAD);
                }
            }
            for (int a = -1; a <= judges; a++) {
                boolean good = a == 0 || a >= 3 && a < judges;
                due.is("coins(" + a + ", 1, 2)", x.coins(TEN, a, 1, 2, -1, 0), good ? 36 : BAD);
                due.is("coins(1, " + a + ", 2)", x.coins(TEN, 1, a, 2, -1, 0), good ? 36 : BAD);
                due.is("coins(1, 2, " + a + ")", x.coins(TEN, 1, 2, a, -1, 0), good ? 36 : BAD);
            }
        }
    }

    /** "of all sets of three JUDGES: how many END so": one set of three JUDGES, 56 of eight. */
    private void others() {
        int[] sets = {0, 0, 0, 1, 4, 10, 20, 35, 56};
        for (int judges = 3; judges <= 8; judges++) {
            ThreeCards x = Due.laid("r1;" + JUDGE.repeat(judges));
            due.is("all for 0 by TEN", x.others(TEN, 0), sets[judges]);
            due.is("none for 1", x.others(TEN, 1), 0);
            due.is("none for nobody", x.others(TEN, 2), 0);
            due.is("all for nobody by EVENS", x.others(EVENS, 2), sets[judges]);
            due.is("end -1", x.others(TEN, -1), BAD);
            due.is("end 3", x.others(TEN, 3), BAD);
        }
        ThreeCards x = leaning("r1;", 0, 0, 0, 0, 0, 0, 0, -1, -1);
        due.is("both of 1 in 6 sets", x.others(EVENS, 1), 6);
        due.is("the other 50", x.others(EVENS, 2), 50);
    }

    /** "JUDGES by whom the one with the CARD is not the one with more hardness of BLOWS in all ... as bits". */
    private void men() {
        String there = "j6,0,0,19,1,0,0;";
        ThreeCards all = Due.laid("r1;b0,0,0,1,0;" + there.repeat(8));
        due.is("all eight", all.men(MILES), 255);
        due.is("none of eight", Due.laid("r1;b0,0,1,1,0;" + there.repeat(8)).men(MILES), 0);
        due.is("the first", Due.laid("r1;b0,0,0,1,0;" + there + JUDGE.repeat(7)).men(MILES), 1);
        due.is("the last", Due.laid("r1;b0,0,0,1,0;" + JUDGE.repeat(7) + there).men(MILES), 128);
        due.is("BLOWS that nobody SEES are hard, too", Due.laid("r1;b0,0,0,9,6;b0,0,1,8,0;" + THREE).men(TEN), 7);
        due.is("W, not how many", Due.laid("r1;b0,0,0,9,0;b0,0,1,4,0;b0,0,1,4,0;j0,0,0,19,1,0,0;" + THREE).men(MILES), 1);
    }

    /** "(W of all BLOWS in ROUNDS; both told, neither even)": as hard, one harder; an even CARD; no BLOWS. */
    private void menOfEvenHardness() {
        String judges = "j0,0,0,21,1,0,0;j0,0,0,19,1,0,0;j0,0,0,20,1,0,0;";
        int[] men = {1, 0, 2};
        for (int more = -1; more <= 1; more++) {
            ThreeCards x = Due.laid("r1;b0,0,0," + (5 + more) + ",0;b0,0,1,5,0;" + judges);
            due.is("hardness " + more, x.men(MILES), men[more + 1]);
        }
        due.is("no BLOWS", Due.laid("r1;" + judges).men(MILES), 0);
        due.is("none in ROUNDS", Due.laid("r1;b1,0,0,9,0;" + judges).men(MILES), 0);
        due.is("harder in ROUNDS", Due.laid("r1;b0,0,1,1,6;b1,0,0,9,0;" + judges).men(MILES), 1);
        due.is("the even CARD by TEN is that of 0", Due.laid("r1;b0,0,1,1,6;" + judges).men(TEN), 5);
        due.is("and even by EVENS", Due.laid("r1;b0,0,1,1,6;" + judges).men(EVENS), 1);
    }

    /** "each CLOSE ROUND of each JUDGE goes to either with like odds": G off 0 does, one more does not. */
    private void coinsAtG() {
        for (int lead = -6; lead <= 6; lead++) {
            ThreeCards x = leaning("r1;", 5, lead, 20, -20);
            boolean coin = lead >= -5 && lead <= 5;
            due.is("coins of LEAD " + lead, x.coins(TEN, 0, 1, 2, -1, 0), coin ? 1 : 0);
            due.is("odds of LEAD " + lead, x.coins(TEN, 0, 1, 2, 0, 0), coin || lead > 0 ? 1 : 0);
            due.is("of", x.coins(TEN, 0, 1, 2, 0, 1), coin ? 2 : 1);
            due.is("odds of 1", x.coins(HALVES, 0, 1, 2, 1, 0), coin || lead < 0 ? 1 : 0);
        }
    }

    /** "How many there are": 0, 1, and 36 of three JUDGES in 12 ROUNDS. */
    private void coinsFewestAndMost() {
        ThreeCards none = leaning("r12;", 0, 1, -1, 2);
        due.is("none", none.coins(TEN, 0, 1, 2, -1, 0), 0);
        due.is("sure", none.coins(TEN, 0, 1, 2, 0, 0) * 10 + none.coins(TEN, 0, 1, 2, 0, 1), 11);
        due.is("never", none.coins(TEN, 0, 1, 2, 1, 0) * 10 + none.coins(TEN, 0, 1, 2, 1, 1), 1);
        due.is("never none", none.coins(TEN, 0, 1, 2, 2, 0) * 10 + none.coins(TEN, 0, 1, 2, 2, 1), 1);
        ThreeCards one = Due.laid("r1;j0,0,0,20,1,0,0;j0,0,0,21,1,0,0;j0,0,0,22,1,0,0;");
        due.is("one", one.coins(HALVES, 0, 1, 2, -1, 0), 1);
        ThreeCards most = Due.laid(JUDGE.repeat(8));
        due.is("36", most.coins(TEN, 7, 6, 5, -1, 0), 36);
        // Of 12 coins 924 of 4096 ways make six and six; e is 924, h is 1586: none is e e e, 3 e e (h + h) and 6 e h h.
        long e = 924, h = 1586;
        long ways = e * e * e + 6 * e * e * h + 6 * e * h * h;
        due.is("none of 36: above", most.coins(TEN, 7, 6, 5, 2, 0), ways / 32);
        due.is("none of 36: below", most.coins(TEN, 7, 6, 5, 2, 1), (1L << 36) / 32);
        long zero = h * h * h + 3 * h * h * (h + e);
        due.is("0 of 36: above", most.coins(HALVES, 7, 6, 5, 0, 0), zero / 16);
        due.is("0 of 36: below", most.coins(HALVES, 7, 6, 5, 0, 1), (1L << 36) / 16);
        due.is("1 as 0", most.coins(HALVES, 7, 6, 5, 1, 0), zero / 16);
    }

    /** "above, below, in lowest terms": with no way 0 of 1, with all ways 1 of 1. */
    private void coinsInLowestTerms() {
        for (int rounds = 1; rounds <= 12; rounds++) {
            ThreeCards x = leaning("r" + rounds + ";k0,1;", 0, 0, 0, 0);
            for (int rule = TEN; rule <= HALVES; rule++) {
                for (int end = 0; end <= 2; end++) {
                    long above = x.coins(rule, 0, 1, 2, end, 0);
                    long below = x.coins(rule, 0, 1, 2, end, 1);
                    due.isTrue("lowest of " + above + " / " + below, above % 2 == 1 || below == 1);
                    due.isTrue("1 at most: " + above + " / " + below, above >= 0 && above <= below);
                }
            }
        }
        ThreeCards sure = Due.laid("r1;k0,1;k0,1;" + THREE);
        due.is("two knockdowns are more than a coin: coins", sure.coins(TEN, 0, 1, 2, -1, 0), 3);
        due.is("above", sure.coins(TEN, 0, 1, 2, 0, 0), 1);
        due.is("below", sure.coins(TEN, 0, 1, 2, 0, 1), 1);
        due.is("never: above", sure.coins(TEN, 0, 1, 2, 1, 0), 0);
        due.is("never: below", sure.coins(TEN, 0, 1, 2, 1, 1), 1);
    }

    /** The odds of the three ENDS together are 1. */
    private void coinsAddUpToOne() {
        String[] fights = {"", "r1;", "r2;k0,0;", "r3;k1,1;k1,1;d0,0;", "r12;d3,1;d3,1;d3,1;b2,0,1,9,0;", "r11;k9,0;d0,1;"};
        for (String items : fights) {
            ThreeCards x = Due.laid(items + "j0,1,0,20,1,0,0;j0,1,0,22,1,0,5;j6,1,0,19,1,0,1;j0,2,0,25,1,0,10;");
            for (int rule = TEN; rule <= HALVES; rule++) {
                long all = 0;
                for (int end = 0; end <= 2; end++) {
                    all += x.coins(rule, 0, 2, 3, end, 0) * ((1L << 36) / x.coins(rule, 0, 2, 3, end, 1));
                }
                due.is("all ENDS of " + items, all, 1L << 36);
            }
        }
    }

    /** "its MARGIN is turned about or not (knockdowns stay)": the CARD is even where they outweigh the coins. */
    private void coinsKeepKnockdowns() {
        String judges = "j0,0,0,20,1,0,0;j0,0,0,40,1,0,0;j0,0,0,0,1,0,0;";
        // A coin of 2 and knockdowns of 0, 2, 4: 2, -2; 4, 0; 6, 2. A coin of 1: 1, -1; 3, 1.
        long[][] ten = {{1, 2, 1, 2, 0, 1}, {1, 2, 0, 1, 1, 2}, {1, 1, 0, 1, 0, 1}};
        long[][] halves = {{1, 2, 1, 2, 0, 1}, {1, 1, 0, 1, 0, 1}, {1, 1, 0, 1, 0, 1}};
        for (int downs = 0; downs < 3; downs++) {
            ThreeCards x = Due.laid("r1;" + "k0,1;".repeat(downs) + judges);
            due.is("CARD of the third", x.card(TEN, 2), -2 + 2 * downs);
            for (int i = 0; i < 6; i++) {
                due.is("TEN " + downs + ", " + i, x.coins(TEN, 0, 1, 2, i / 2, i % 2), ten[downs][i]);
                due.is("HALVES " + downs + ", " + i, x.coins(HALVES, 0, 1, 2, i / 2, i % 2), halves[downs][i]);
            }
        }
        // Points taken of 1 stay as knockdowns do; a fourth ROUND keeps the CARDS of the others off 0.
        for (int taken = 0; taken < 3; taken++) {
            ThreeCards x = Due.laid("r4;" + "d0,1;".repeat(taken) + "b1,0,0,9,0;b2,0,1,9,0;b3,0,0,9,0;"
                + "j0,1,0,18,1,0,2;j0,0,0,40,1,0,0;j0,0,0,0,1,0,0;");
            // JUDGE 0: a coin in ROUND 0, 2, -2 and 2 in the others: 2 and a coin and twice the points taken.
            due.is("one coin", x.coins(TEN, 0, 1, 2, -1, 0), 1);
            due.is("0 by TEN above " + taken, x.coins(TEN, 0, 1, 2, 0, 0), 1);
            due.is("0 by TEN below " + taken, x.coins(TEN, 0, 1, 2, 0, 1), taken == 0 ? 2 : 1);
            due.is("none by TEN " + taken, x.coins(TEN, 0, 1, 2, 2, 0), taken == 0 ? 1 : 0);
            due.is("0 by HALVES below " + taken, x.coins(HALVES, 0, 1, 2, 0, 1), 1);
        }
    }

    /** "COINS by three JUDGES": those of the others are none. */
    private void coinsOfTheThreeAlone() {
        ThreeCards x = Due.laid("r5;" + "j0,0,0,20,1,0,0;".repeat(5) + "j0,0,0,21,1,0,0;".repeat(3));
        int[][] threes = {{5, 6, 7, 0}, {4, 6, 7, 5}, {7, 0, 3, 10}, {0, 1, 2, 15}};
        for (int[] t : threes) {
            due.is("coins of " + t[0] + ", " + t[1] + ", " + t[2], x.coins(TEN, t[0], t[1], t[2], -1, 0), t[3]);
        }
    }

    /** "how many (end = -1, part 0), odds of an END: above (part = 0), below (1). BAD". */
    private void coinsPart() {
        ThreeCards x = new ThreeCards();
        for (int end = -2; end <= 3; end++) {
            for (int part = -1; part <= 2; part++) {
                boolean good = end == -1 && part == 0 || end >= 0 && end <= 2 && part >= 0 && part <= 1;
                due.isTrue("coins(0, .., " + end + ", " + part + ")", good == (x.coins(TEN, 0, 1, 2, end, part) != BAD));
            }
        }
    }

    /** "of all three SEATS (unlike, a below b below c) ...; the first": without BLOWS 0, 1, 2. */
    private void seatsWithoutBlows() {
        int[] first = {0, 1, 2, 0, 0};
        for (int what = 0; what < 5; what++) {
            due.is("a new object: seats(" + what + ")", new ThreeCards().seats(what), first[what]);
            due.is("none in ROUNDS: seats(" + what + ")", Due.laid("r1;b1,0,0,9,6;" + THREE).seats(what), first[what]);
        }
        due.is("seats(-1)", new ThreeCards().seats(-1), BAD);
        due.is("seats(5)", new ThreeCards().seats(5), BAD);
    }

    /** "those by which fewest BLOWS ... are SEEN by fewer than two of them": of one SIDE the first three with two that SEE. */
    private void seatsOfOneSide() {
        // b and c for each SIDE; a is 0. SIDE 5 is SEEN from 1 to 9, SIDE 6 from 2 to 10, SIDE 7 from 3 to 11.
        int[][] best = {{1, 2}, {1, 2}, {1, 2}, {1, 2}, {1, 2}, {1, 2}, {2, 3}, {3, 4}, {1, 4}, {1, 2}, {1, 2}, {1, 2}};
        for (int side = 0; side < 12; side++) {
            ThreeCards x = Due.laid("r1;b0,0,0,1," + side + ";" + THREE);
            due.is("a of SIDE " + side, x.seats(0), 0);
            due.is("b of SIDE " + side, x.seats(1), best[side][0]);
            due.is("c of SIDE " + side, x.seats(2), best[side][1]);
            due.is("by fewer than two", x.seats(3), 0);
            due.is("by none", x.seats(4), 0);
        }
    }

    /** "the first": all SIDES are SEEN twice from 0, 3, 6 on, and from no three ahead of these. */
    private void seatsTheFirst() {
        StringBuilder text = new StringBuilder("r1;");
        for (int side = 0; side < 12; side++) {
            text.append("b0,0,").append(side % 2).append(",1,").append(side).append(';');
        }
        ThreeCards x = Due.laid(text + THREE);
        int[] best = {0, 3, 6, 0, 0};
        for (int what = 0; what < 5; what++) {
            due.is("all SIDES: seats(" + what + ")", x.seats(what), best[what]);
        }
        x.wipe();
        Due.put(x, "b0,0,0,1,6;" + THREE);
        due.is("laid behind it", x.lay(), 3);
        due.is("SIDE 6 alone: b", x.seats(1), 2);
        due.is("SIDE 6 alone: c", x.seats(2), 3);
        due.is("the JUDGES' own SEATS do not matter", Due.laid(text + "j6,1,0,20,1,0,0;".repeat(3)).seats(1), 3);
    }

    /** Each set of SIDES, against the document's second writing: no SIDE is left out, the first and the last neither. */
    private void seatsOfAllSetsOfSides() {
        for (int sides = 0; sides < 4096; sides++) {
            StringBuilder text = new StringBuilder(THREE);
            for (int side = 0; side < 12; side++) {
                if ((sides >> side & 1) == 1) {
                    text.append("b0,0,0,1,").append(side).append(';');
                }
            }
            Pair pair = Pair.laid(text.toString());
            due.is("b of SIDES " + sides, pair.x.seats(1), pair.y.seats(1));
            due.is("c of SIDES " + sides, pair.x.seats(2), pair.y.seats(2));
        }
    }

    /** "RULES: 0 TEN ... 3 MILES"; "POINTS (RULES 0 to 2)"; "COINS (RULES 0, 1)": one below and one beyond. */
    private void rulesThatAreNone() {
        ThreeCards x = Due.laid("r1;" + THREE);
        for (int rule = -1; rule <= 4; rule++) {
            boolean is = rule >= 0 && rule <= 3;
            due.isTrue("margin by " + rule, is == (x.margin(rule, 0, 0) != BAD_LEAD));
            due.isTrue("card by " + rule, is == (x.card(rule, 0) != BAD_LEAD));
            due.isTrue("end by " + rule, is == (x.end(rule, 0, 1, 2, 0) != BAD));
            due.isTrue("others by " + rule, is == (x.others(rule, 0) != BAD));
            due.isTrue("men by " + rule, is == (x.men(rule) != BAD));
            due.isTrue("points by " + rule, (is && rule <= 2) == (x.points(rule, 0, 0) != BAD));
            due.isTrue("added by " + rule, (is && rule <= 2) == (x.added(rule, 0, 0, 0, 0) != BAD));
            due.isTrue("coins by " + rule, (is && rule <= 1) == (x.coins(rule, 0, 1, 2, 0, 0) != BAD));
        }
    }
}
