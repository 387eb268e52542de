/** Promises 7 to 17: SUM, LEAD, CLOSE, MARGIN, CARD, POINTS, END, OTHERS, MEN, COINS, SEATS. */
public final class CardsTest {
    private static final int BAD = -1, BAD_LEAD = -100001;
    private static final int TEN = 0, HALVES = 1, EVENS = 2, MILES = 3;

    private final Due due = new Due();

    public static void main(String[] args) {
        CardsTest test = new CardsTest();
        test.sum();
        test.noise();
        test.lead();
        test.close();
        test.margin();
        test.marginWithoutLead();
        test.miles();
        test.card();
        test.beyondTheRounds();
        test.points();
        test.ends();
        test.endOfWrongNumbers();
        test.others();
        test.men();
        test.coins();
        test.coinsWithDowns();
        test.seats();
        test.due.close();
    }

    /** A fight of one ROUND without BLOWS: each JUDGE leans so that LEAD is what is given. */
    private static ThreeCards leaning(String items, int... leads) {
        StringBuilder text = new StringBuilder(items);
        for (int lead : leads) {
            text.append("j0,0,0,").append(20 + lead).append(",1,0,0;");
        }
        return Due.laid(text.toString());
    }

    private void sum() {
        ThreeCards x = Due.laid("r2;b0,169,0,5,0;b0,170,0,3,4;b0,179,1,2,8;b0,0,0,9,5;b1,0,0,9,0;"
            + "f0,0,3;f0,0,4;f0,1,9;f1,1,2;j0,2,3,20,4,0,0;j6,0,1,20,9,9,0;j1,9,0,20,1,0,0;");
        due.is("BLOWS, late ones 4 times, forward", x.sum(0, 0, 0), 2 * 5 + 2 * 3 * 4 + 3 * 4);
        due.is("late, 4 off the other way, and forward", x.sum(0, 0, 1), 2 * 2 * 4 + 27);
        due.is("the other ROUND", x.sum(0, 1, 0), 18);
        due.is("forward alone", x.sum(0, 1, 1), 6);
        due.is("counts nothing but forward", x.sum(1, 0, 0), 4);
        due.is("counts no forward", x.sum(2, 0, 0), 9 * (5 + 3 + 9));
        due.is("5 off is not SEEN", x.sum(2, 0, 1), 0);
        due.is("JUDGE 3", x.sum(3, 0, 0), BAD);
        due.is("JUDGE -1", x.sum(-1, 0, 0), BAD);
        due.is("ROUND 2", x.sum(0, 2, 0), BAD);
        due.is("ROUND -1", x.sum(0, -1, 0), BAD);
        due.is("CORNER 2", x.sum(0, 0, 2), BAD);
        due.is("CORNER -1", x.sum(0, 0, -1), BAD);
    }

    private void noise() {
        String text = "r2;b0,175,1,5,6;b0,1,1,5,6;b0,2,1,5,0;b0,3,0,5,6;b1,3,1,5,6;"
            + "j0,1,0,20,9,3,0;j0,1,0,20,1,0,0;j6,1,0,20,1,3,0;";
        ThreeCards x = Due.laid("h0,1;h1,4;" + text);
        due.is("two not SEEN of the one at home", x.sum(0, 0, 1), 5 + 4 * 3 * 2);
        due.is("the other is not at home", x.sum(0, 0, 0), 0);
        due.is("the other ROUND", x.sum(0, 1, 1), 12);
        due.is("no EARS", x.sum(1, 0, 1), 5);
        due.is("SEEN from there", x.sum(2, 0, 1), 10 + 12);
        ThreeCards quiet = Due.laid(text);
        due.is("no noise without", quiet.sum(0, 0, 1), 5);
        ThreeCards behind = Due.laid(text + "h0,2;");
        due.is("h behind the BLOWS", behind.sum(0, 0, 0), 6);
        due.is("of the one at home alone", behind.sum(0, 0, 1), 5);
    }

    private void lead() {
        ThreeCards x = Due.laid("r2;b0,0,0,7,0;b1,0,1,9,0;j0,1,0,20,1,0,0;j0,1,0,0,1,0,0;j0,9,0,40,1,0,0;");
        due.is("7", x.lead(0, 0), 7);
        due.is("-9", x.lead(0, 1), -9);
        due.is("leans 20 the one way", x.lead(1, 0), -13);
        due.is("and the other", x.lead(2, 0), 83);
        due.is("counts 9", x.lead(2, 1), -61);
        due.is("JUDGE 3", x.lead(3, 0), BAD_LEAD);
        due.is("JUDGE -1", x.lead(-1, 0), BAD_LEAD);
        due.is("ROUND 2", x.lead(0, 2), BAD_LEAD);
        due.is("ROUND -1", x.lead(0, -1), BAD_LEAD);
    }

    private void close() {
        ThreeCards x = Due.laid("r2;b0,0,0,7,0;b1,0,1,8,0;j0,1,0,20,1,0,7;j0,1,0,20,1,0,6;j0,0,0,20,1,0,0;");
        due.is("7 of 7", x.close(0, 0), 1);
        due.is("-8 of 7", x.close(0, 1), 0);
        due.is("7 of 6", x.close(1, 0), 0);
        due.is("0 of 0", x.close(2, 0), 1);
        ThreeCards y = Due.laid("r2;b1,0,1,8,0;j0,1,0,20,1,0,8;j0,9,0,20,1,0,99;j0,1,0,20,1,0,7;");
        due.is("-8 of 8", y.close(0, 1), 1);
        due.is("-72 of 99", y.close(1, 1), 1);
        due.is("JUDGE 3", y.close(3, 0), BAD);
        due.is("JUDGE -1", y.close(-1, 0), BAD);
        due.is("ROUND 2", y.close(0, 2), BAD);
        due.is("ROUND -1", y.close(0, -1), BAD);
    }

    private void margin() {
        // LEAD 3, -3, 1 of the JUDGES in each ROUND, CLOSE up to 3, 2, 1.
        String judges = "j0,0,0,23,1,0,3;j0,0,0,17,1,0,2;j0,0,0,21,1,0,1;";
        ThreeCards x = Due.laid("r5;k1,1;k2,0;k2,0;k2,0;k3,1;k3,1;k3,1;k4,0;k4,1;" + judges);
        int[][] ten = {{2, 4, -4, 8, 2}, {-2, 0, -8, 4, -2}, {2, 4, -4, 8, 2}};
        int[][] halves = {{1, 3, -5, 7, 1}, {-2, 0, -8, 4, -2}, {1, 3, -5, 7, 1}};
        int[][] evens = {{0, 2, -6, 6, 0}, {-2, 0, -8, 4, -2}, {0, 2, -6, 6, 0}};
        int[][] miles = {{1, 5, -11, 13, 1}, {-1, 3, -13, 11, -1}, {1, 5, -11, 13, 1}};
        int[][][] all = {ten, halves, evens, miles};
        for (int rule = TEN; rule <= MILES; rule++) {
            for (int judge = 0; judge < 3; judge++) {
                for (int round = 0; round < 5; round++) {
                    due.is("margin(" + rule + ", " + judge + ", " + round + ")", x.margin(rule, judge, round),
                        all[rule][judge][round]);
                }
            }
        }
        due.is("RULE 4", x.margin(4, 0, 0), BAD_LEAD);
        due.is("RULE -1", x.margin(-1, 0, 0), BAD_LEAD);
        due.is("JUDGE 3", x.margin(0, 3, 0), BAD_LEAD);
        due.is("JUDGE -1", x.margin(0, -1, 0), BAD_LEAD);
        due.is("ROUND 5", x.margin(0, 0, 5), BAD_LEAD);
        due.is("ROUND -1", x.margin(0, 0, -1), BAD_LEAD);
    }

    private void marginWithoutLead() {
        // The LEAD of JUDGE 0: 0, -4, 0, 0, 6, 0; JUDGE 1 SEES nothing of it.
        ThreeCards x = Due.laid("r6;b1,0,1,4,0;b4,0,0,6,0;k3,1;j0,1,0,20,1,0,0;j6,1,0,20,1,0,0;j0,1,0,20,1,0,0;");
        int[] ten = {2, -2, -2, 0, 2, 2};
        int[] halves = {1, -2, -1, 1, 2, 1};
        int[] evens = {0, -2, 0, 2, 2, 0};
        int[] miles = {0, -1, 0, 4, 2, 0};
        for (int round = 0; round < 6; round++) {
            due.is("TEN " + round, x.margin(TEN, 0, round), ten[round]);
            due.is("HALVES " + round, x.margin(HALVES, 0, round), halves[round]);
            due.is("EVENS " + round, x.margin(EVENS, 0, round), evens[round]);
            due.is("MILES " + round, x.margin(MILES, 0, round), miles[round]);
            due.is("by the other JUDGE " + round, x.margin(TEN, 1, round), round == 3 ? 4 : 2);
        }
    }

    private void miles() {
        int[] leads = {0, 1, 4, 5, 9, 10, 14, 20, -1, -4, -5, -9, -10, -20};
        int[] margins = {0, 1, 1, 2, 2, 3, 3, 5, -1, -1, -2, -2, -3, -5};
        for (int i = 0; i < leads.length; i++) {
            ThreeCards x = leaning("r1;", leads[i], 0, 0);
            due.is("MILES of LEAD " + leads[i], x.margin(MILES, 0, 0), margins[i]);
        }
        // A BLOW of 9 counts 9 and leans of 10 to 19: LEAD 91 to 100.
        int[] far = {91, 94, 95, 99, 100};
        int[] farMargins = {19, 19, 20, 20, 20};
        for (int i = 0; i < far.length; i++) {
            int leans = 20 + far[i] - 81;
            ThreeCards x = Due.laid("r1;b0,0,0,9,0;k0,1;k0,1;k0,1;" + ("j0,9,0," + leans + ",1,0,0;").repeat(3));
            due.is("MILES of LEAD " + far[i], x.margin(MILES, 0, 0), farMargins[i] + 12);
            ThreeCards y = Due.laid("r1;b0,0,1,9,0;k0,0;" + ("j0,9,0," + (40 - leans) + ",1,0,0;").repeat(3));
            due.is("MILES of LEAD -" + far[i], y.margin(MILES, 0, 0), -farMargins[i] - 4);
        }
    }

    private void card() {
        ThreeCards x = Due.laid("r3;k0,1;d0,0;d0,0;d2,0;d1,1;j0,0,0,23,1,0,3;j0,0,0,17,1,0,2;j0,0,0,20,1,0,0;");
        due.is("TEN", x.card(TEN, 0), 6 + 2 - 6 + 2);
        due.is("HALVES", x.card(HALVES, 0), 3 + 2 - 6 + 2);
        due.is("EVENS", x.card(EVENS, 0), 2 - 6 + 2);
        due.is("MILES", x.card(MILES, 0), 3 + 4 - 6 + 2);
        due.is("TEN of the other", x.card(TEN, 1), -6 + 2 - 6 + 2);
        due.is("MILES of the other", x.card(MILES, 1), -3 + 4 - 6 + 2);
        due.is("MILES of the third", x.card(MILES, 2), 4 - 6 + 2);
        due.is("RULE 4", x.card(4, 0), BAD_LEAD);
        due.is("RULE -1", x.card(-1, 0), BAD_LEAD);
        due.is("JUDGE 3", x.card(0, 3), BAD_LEAD);
        due.is("JUDGE -1", x.card(0, -1), BAD_LEAD);
    }

    private void beyondTheRounds() {
        String judges = "j0,1,1,20,1,1,0;j0,1,0,20,1,0,0;j0,1,0,20,1,0,0;";
        ThreeCards x = Due.laid("r12;b2,0,1,9,6;b2,0,0,9,0;k2,1;k2,0;k2,0;d2,0;d2,1;d2,1;f2,0,9;h0,1;r2;" + judges);
        due.is("ROUNDS", x.count(0), 2);
        due.is("BLOWS", x.count(2), 2);
        due.is("a BLOW there", x.blow(0, 0), 2);
        due.is("CARD", x.card(TEN, 0), 4);
        due.is("MILES", x.card(MILES, 0), 0);
        due.is("POINTS of 0", x.points(TEN, 0, 0), 40);
        due.is("POINTS of 1", x.points(TEN, 0, 1), 36);
        due.is("MEN", x.men(TEN), 0);
        due.is("SEATS", x.seats(1), 1);
        due.is("SEATS", x.seats(3), 0);
        due.is("BUTTONS", x.buttons(-1, 1, 0, 0), 0);
        due.is("MISSED", x.buttons(-1, 1, 0, 3), 0);
        due.is("SUM", x.sum(0, 2, 0), BAD);
    }

    private void points() {
        ThreeCards x = Due.laid("r3;k0,1;k1,0;k1,0;k1,0;d0,0;d0,0;d2,0;d1,1;"
            + "j0,0,0,23,1,0,3;j0,0,0,17,1,0,2;j0,0,0,20,1,0,0;");
        // MARGINS: TEN 4, -4, 2 and 0, -8, -2; HALVES 3, -5, 1.
        due.is("TEN 0", x.points(TEN, 0, 0), 60 - 4 - 6);
        due.is("TEN 1", x.points(TEN, 0, 1), 60 - 6 - 2);
        due.is("TEN 0 of the other", x.points(TEN, 1, 0), 60 - 10 - 6);
        due.is("TEN 1 of the other", x.points(TEN, 1, 1), 60 - 2);
        due.is("HALVES 0", x.points(HALVES, 0, 0), 60 - 5 - 6);
        due.is("HALVES 1", x.points(HALVES, 0, 1), 60 - 4 - 2);
        due.is("EVENS 0", x.points(EVENS, 0, 0), 60 - 6 - 6);
        due.is("EVENS 1", x.points(EVENS, 0, 1), 60 - 2 - 2);
        due.is("no POINTS by MILES", x.points(MILES, 0, 0), BAD);
        due.is("RULE -1", x.points(-1, 0, 0), BAD);
        due.is("JUDGE 3", x.points(0, 3, 0), BAD);
        due.is("JUDGE -1", x.points(0, -1, 0), BAD);
        due.is("CORNER 2", x.points(0, 0, 2), BAD);
        due.is("CORNER -1", x.points(0, 0, -1), BAD);
        ThreeCards y = leaning("r1;k0,0;k0,0;k0,0;d0,0;d0,0;d0,0;", -1, 0, 1);
        due.is("the fewest", y.points(TEN, 0, 0), 20 - 8 - 6);
    }

    /** All 27 threes of CARDS by MILES: 1, -1, 0. */
    private void ends() {
        int[] leads = {1, -1, 0};
        for (int i = 0; i < 27; i++) {
            int[] of = {i / 9, i / 3 % 3, i % 3};
            ThreeCards x = leaning("r1;", leads[of[0]], leads[of[1]], leads[of[2]]);
            int[] has = new int[3];
            for (int owner : of) {
                has[owner]++;
            }
            int who = has[0] >= 2 ? 0 : has[1] >= 2 ? 1 : 2;
            boolean alike = has[0] == 3 || has[1] == 3 || has[2] == 3;
            int kind = alike ? 0 : who == 2 ? 3 : has[2] == 1 ? 1 : 2;
            due.is("end of " + i, x.end(MILES, 0, 1, 2, 0), who);
            due.is("kind of " + i, x.end(MILES, 0, 1, 2, 1), kind);
            due.is("in another order " + i, x.end(MILES, 2, 0, 1, 1), kind);
        }
        ThreeCards x = leaning("r1;", 1, 1, -1, -1, 0);
        due.is("others of the five", x.end(MILES, 2, 3, 4, 0), 1);
        due.is("others of the five", x.end(MILES, 0, 1, 4, 1), 1);
        due.is("TEN makes 0 of no LEAD", x.end(TEN, 0, 3, 4, 0), 0);
        due.is("EVENS does not", x.end(EVENS, 0, 3, 4, 0), 2);
    }

    private void endOfWrongNumbers() {
        ThreeCards x = leaning("r1;", 1, 1, -1, -1);
        due.is("RULE 4", x.end(4, 0, 1, 2, 0), BAD);
        due.is("RULE -1", x.end(-1, 0, 1, 2, 0), BAD);
        due.is("a is 4", x.end(0, 4, 1, 2, 0), BAD);
        due.is("b is 4", x.end(0, 0, 4, 2, 0), BAD);
        due.is("c is 4", x.end(0, 0, 1, 4, 0), BAD);
        due.is("a is -1", x.end(0, -1, 1, 2, 0), BAD);
        due.is("b is -1", x.end(0, 0, -1, 2, 0), BAD);
        due.is("c is -1", x.end(0, 0, 1, -1, 0), BAD);
        due.is("a is b", x.end(0, 1, 1, 2, 0), BAD);
        due.is("a is c", x.end(0, 1, 2, 1, 0), BAD);
        due.is("b is c", x.end(0, 2, 1, 1, 0), BAD);
        due.is("what is 2", x.end(0, 0, 1, 2, 2), BAD);
        due.is("what is -1", x.end(0, 0, 1, 2, -1), BAD);
    }

    private void others() {
        ThreeCards x = leaning("r1;", 1, 1, 1, -1, -1, 0);
        // Of 20 sets: two or three of the three for 0: 3 * 3 + 1; both for 1: 4; none: 6.
        due.is("0", x.others(MILES, 0), 10);
        due.is("1", x.others(MILES, 1), 4);
        due.is("none", x.others(MILES, 2), 6);
        due.is("by TEN four for 0", x.others(TEN, 0), 16);
        ThreeCards y = leaning("r1;", 0, 0, 0, 0, 0, 0, 0, 1);
        due.is("eight JUDGES", y.others(EVENS, 2), 56);
        due.is("eight JUDGES by TEN", y.others(TEN, 0), 56);
        due.is("RULE 4", x.others(4, 0), BAD);
        due.is("RULE -1", x.others(-1, 0), BAD);
        due.is("end 3", x.others(0, 3), BAD);
        due.is("end -1", x.others(0, -1), BAD);
    }

    private void men() {
        String judges = "j0,0,0,21,1,0,0;j6,9,0,19,1,0,0;j6,0,0,20,1,0,0;j0,0,0,10,1,0,0;";
        ThreeCards x = Due.laid("r2;b0,0,0,5,0;b1,0,1,4,0;b3,0,1,9,0;" + judges);
        due.is("0 is harder: JUDGES 1 and 3", x.men(MILES), 10);
        due.is("by TEN", x.men(TEN), 10);
        ThreeCards y = Due.laid("r2;b0,0,0,5,0;b1,0,1,6,0;" + judges);
        due.is("1 is harder: JUDGE 0", y.men(MILES), 1);
        due.is("by TEN the third, too", y.men(TEN), 5);
        ThreeCards z = Due.laid("r2;b0,0,0,5,0;b1,0,1,5,0;" + judges);
        due.is("as hard", z.men(TEN), 0);
        due.is("RULE 4", x.men(4), BAD);
        due.is("RULE -1", x.men(-1), BAD);
    }

    private void coins() {
        // One ROUND, all CLOSE: by TEN each JUDGE is a coin.
        ThreeCards x = leaning("r1;", 0, 0, 0, 5);
        due.is("three coins", x.coins(TEN, 0, 1, 2, -1, 0), 3);
        due.is("0 has it", x.coins(TEN, 0, 1, 2, 0, 0), 1);
        due.is("of two", x.coins(TEN, 0, 1, 2, 0, 1), 2);
        due.is("none has it", x.coins(TEN, 0, 1, 2, 2, 0), 0);
        due.is("of one", x.coins(TEN, 0, 1, 2, 2, 1), 1);
        due.is("two coins beside a card of 0", x.coins(HALVES, 3, 1, 0, -1, 0), 2);
        due.is("3 of", x.coins(HALVES, 3, 1, 0, 0, 0), 3);
        due.is("4", x.coins(HALVES, 3, 1, 0, 0, 1), 4);
        due.is("1 of", x.coins(HALVES, 0, 3, 1, 1, 0), 1);
        due.is("4", x.coins(HALVES, 0, 3, 1, 1, 1), 4);
        ThreeCards y = leaning("r1;", 1, -2, 5);
        due.is("no coins", y.coins(TEN, 0, 1, 2, -1, 0), 0);
        due.is("sure", y.coins(TEN, 0, 1, 2, 0, 0), 1);
        due.is("sure", y.coins(TEN, 0, 1, 2, 0, 1), 1);
        due.is("never", y.coins(TEN, 0, 1, 2, 1, 0), 0);
        due.is("never", y.coins(TEN, 0, 1, 2, 1, 1), 1);
        coinsOfWrongNumbers(x);
    }

    private void coinsOfWrongNumbers(ThreeCards x) {
        due.is("EVENS", x.coins(EVENS, 0, 1, 2, 0, 0), BAD);
        due.is("RULE -1", x.coins(-1, 0, 1, 2, 0, 0), BAD);
        due.is("JUDGE 4", x.coins(0, 4, 1, 2, 0, 0), BAD);
        due.is("JUDGE -1", x.coins(0, 0, -1, 2, 0, 0), BAD);
        due.is("JUDGE 4", x.coins(0, 0, 1, 4, 0, 0), BAD);
        due.is("one twice", x.coins(0, 0, 1, 1, 0, 0), BAD);
        due.is("one twice", x.coins(0, 1, 0, 1, 0, 0), BAD);
        due.is("one twice", x.coins(0, 1, 1, 0, 0, 0), BAD);
        due.is("end -2", x.coins(0, 0, 1, 2, -2, 0), BAD);
        due.is("end 3", x.coins(0, 0, 1, 2, 3, 0), BAD);
        due.is("part 2", x.coins(0, 0, 1, 2, 0, 2), BAD);
        due.is("part -1", x.coins(0, 0, 1, 2, 0, -1), BAD);
        due.is("part 1 of how many", x.coins(0, 0, 1, 2, -1, 1), BAD);
        due.is("part -1 of how many", x.coins(0, 0, 1, 2, -1, -1), BAD);
    }

    private void coinsWithDowns() {
        // Two CLOSE ROUNDS of JUDGE 0; a knockdown of 1 stays with him: TEN 2 + (4, 0, 0, -4), HALVES 2 + (2, 0, 0, -2).
        String judges = "j0,0,0,20,1,0,0;j0,0,0,40,1,0,0;j0,0,0,0,1,0,0;";
        ThreeCards x = Due.laid("r2;k0,1;" + judges);
        due.is("two coins", x.coins(TEN, 0, 1, 2, -1, 0), 2);
        due.is("TEN: 0 by 3 of 4", x.coins(TEN, 0, 1, 2, 0, 0), 3);
        due.is("of 4", x.coins(TEN, 0, 1, 2, 0, 1), 4);
        due.is("TEN: 1 by 1 of 4", x.coins(TEN, 2, 1, 0, 1, 0), 1);
        due.is("HALVES: never 1", x.coins(HALVES, 0, 1, 2, 1, 0), 0);
        due.is("HALVES: even by 1 of 4", x.coins(HALVES, 0, 1, 2, 2, 0), 1);
        due.is("of 4", x.coins(HALVES, 0, 1, 2, 2, 1), 4);
        ThreeCards y = Due.laid("r2;d0,1;d1,0;d1,0;d1,0;d0,0;" + judges);
        due.is("four points taken are more than two coins: above", y.coins(TEN, 0, 1, 2, 1, 0), 1);
        due.is("below", y.coins(TEN, 0, 1, 2, 1, 1), 1);
        ThreeCards z = Due.laid("r2;d0,0;" + judges);
        due.is("points taken stay: 1 by 3 of 4", z.coins(TEN, 0, 1, 2, 1, 0), 3);
        // Three CLOSE ROUNDS and two knockdowns of 1: TEN 4 + (6, 2, -2, -6), HALVES 4 + (3, 1, -1, -3).
        ThreeCards three = Due.laid("r3;k1,1;k1,1;" + judges);
        due.is("TEN: 1 by 1 of 8", three.coins(TEN, 0, 1, 2, 1, 0), 1);
        due.is("of 8", three.coins(TEN, 0, 1, 2, 1, 1), 8);
        due.is("HALVES: never 1", three.coins(HALVES, 0, 1, 2, 1, 0), 0);
        // Two ROUNDS, two knockdowns of 1: TEN 4 + (4, 0, 0, -4): even by 1 of 4, never 1.
        ThreeCards even = Due.laid("r2;k1,1;k1,1;" + judges);
        due.is("TEN: even by 1 of 4", even.coins(TEN, 0, 1, 2, 2, 0), 1);
        due.is("of 4", even.coins(TEN, 0, 1, 2, 2, 1), 4);
        due.is("TEN: never 1", even.coins(TEN, 0, 1, 2, 1, 0), 0);
        ThreeCards most = new ThreeCards();
        due.is("36 coins", most.coins(TEN, 2, 0, 1, -1, 0), 36);
        due.is("none: above", most.coins(TEN, 0, 1, 2, 2, 0), 714336777L);
        due.is("none: below", most.coins(TEN, 0, 1, 2, 2, 1), 2147483648L);
    }

    private void seats() {
        ThreeCards x = new ThreeCards();
        int[] first = {0, 1, 2, 0, 0};
        for (int what = 0; what < 5; what++) {
            due.is("no BLOWS: seats(" + what + ")", x.seats(what), first[what]);
        }
        due.is("seats(5)", x.seats(5), BAD);
        due.is("seats(-1)", x.seats(-1), BAD);
        String judges = "j0,1,0,20,1,0,0;".repeat(3);
        // SIDE 6 is SEEN from SEATS 2 to 10: the first three with two of these.
        ThreeCards six = Due.laid("b0,0,0,1,6;" + judges);
        int[] ofSix = {0, 2, 3, 0, 0};
        for (int what = 0; what < 5; what++) {
            due.is("SIDE 6: seats(" + what + ")", six.seats(what), ofSix[what]);
        }
        StringBuilder all = new StringBuilder();
        for (int side = 0; side < 12; side++) {
            all.append("b0,0,0,1,").append(side).append(';');
        }
        ThreeCards round = Due.laid(all + judges);
        // 0 SEES 8 to 4, 3 SEES 11 to 7, 6 SEES 2 to 10: each SIDE twice. With b below 3, or c below 6, 7 or 6 is not.
        int[] ofAll = {0, 3, 6, 0, 0};
        for (int what = 0; what < 5; what++) {
            due.is("all SIDES: seats(" + what + ")", round.seats(what), ofAll[what]);
        }
        round.wipe();
        Due.put(round, "b0,0,0,1,0;" + judges);
        round.lay();
        // SIDE 0 is SEEN from SEATS 8 to 4.
        due.is("SIDE 0 alone, behind all SIDES", round.seats(1) * 100 + round.seats(2), 102);
        // SIDE 4 is SEEN from SEATS 0 to 8, SIDE 7 from 3 to 11, SIDE 0 from 8 to 4.
        ThreeCards some = Due.laid("b0,0,0,1,0;b0,0,0,1,4;b0,0,0,1,7;" + judges);
        due.is("three SIDES: b", some.seats(1), 3);
        due.is("three SIDES: c", some.seats(2), 4);
        ThreeCards late = Due.laid("r1;" + "b1,0,0,1,6;" + "b0,0,0,1,0;" + judges);
        due.is("a BLOW beyond the ROUNDS counts not", late.seats(1), 1);
    }
}
