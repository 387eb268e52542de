/**
 * The sentences of Terms 1 about what JUDGES SEE and add up, and promises 7 to 9, at their edges and on both sides of
 * these. Above each test stands what the document says.
 */
public final class FightEdgeTest {
    private static final int BAD = -1, BAD_LEAD = -100001;
    private static final String JUDGE = Pair.JUDGE;
    private static final String THREE = Pair.THREE;

    private final Due due = new Due();

    public static void main(String[] args) {
        FightEdgeTest test = new FightEdgeTest();
        test.fourSidesOff();
        test.fourSidesOffAboutZero();
        test.lastTenSeconds();
        test.countsOfAJudge();
        test.forwardLast();
        test.homeLast();
        test.homeUnseen();
        test.sumOfNothing();
        test.greatestSums();
        test.leadOfLeaning();
        test.closeAtG();
        test.closeAtZeroAnd99();
        test.beyondTheRounds();
        test.lastRoundCounts();
        test.beyondTheRoundsForTheMost();
        test.refused();
        test.due.close();
    }

    /** "if its SIDE is 4 or fewer of 12 off the SEAT (either way about)": 4 is SEEN, 5 is not, 6, 7 (5 the other way). */
    private void fourSidesOff() {
        String seen = "111110001111";
        for (int seat = 0; seat < 12; seat++) {
            for (int side = 0; side < 12; side++) {
                ThreeCards x = Due.laid("r1;b0,0,0,1," + side + ";j" + seat + ",1,0,20,1,0,0;" + JUDGE + JUDGE);
                int sees = seen.charAt((side - seat + 12) % 12) - '0';
                due.is("SIDE " + side + " from SEAT " + seat, x.blow(0, 5) & 1, sees);
                due.is("SUM of SIDE " + side + " from SEAT " + seat, x.sum(0, 0, 0), sees);
            }
        }
    }

    /** The wrap-around of 12: SEAT 0 SEES 8 to 11 and 0 to 4, SEAT 11 SEES 7 to 11 and 0 to 3. */
    private void fourSidesOffAboutZero() {
        String judges = "j0,1,0,20,1,0,0;j11,1,0,20,1,0,0;j8,1,0,20,1,0,0;j3,1,0,20,1,0,0;";
        int[] bits = {15, 11, 11, 11, 13, 12, 12, 14, 7, 7, 7, 15};
        for (int side = 0; side < 12; side++) {
            due.is("SIDE " + side, Due.laid("b0,0,0,1," + side + ";" + judges).blow(0, 5), bits[side]);
        }
    }

    /** "(K times, if T is 170 or more)": 169 and 170, 0 and 179, for K 1, 2 and 9. */
    private void lastTenSeconds() {
        int[] seconds = {0, 1, 168, 169, 170, 171, 178, 179};
        for (int t : seconds) {
            ThreeCards x = Due.laid("r1;b0," + t + ",1,4,0;j0,3,0,20,1,0,0;j0,3,0,20,2,0,0;j0,3,0,20,9,0,0;");
            due.is("once at " + t, x.sum(0, 0, 1), 12);
            due.is("twice at " + t, x.sum(1, 0, 1), t >= 170 ? 24 : 12);
            due.is("9 times at " + t, x.sum(2, 0, 1), t >= 170 ? 108 : 12);
            due.is("not of the other CORNER", x.sum(2, 0, 0), 0);
        }
    }

    /** "C times W", "F times forward": 0 and 9 of each. */
    private void countsOfAJudge() {
        ThreeCards x = Due.laid("r1;b0,0,0,9,0;b0,0,1,1,0;f0,0,9;f0,1,1;j0,0,0,20,1,0,0;j0,9,0,20,1,0,0;"
            + "j0,0,9,20,1,0,0;j0,9,9,20,1,0,0;");
        int[][] sums = {{0, 0}, {81, 9}, {81, 9}, {162, 18}};
        for (int judge = 0; judge < 4; judge++) {
            for (int corner = 0; corner < 2; corner++) {
                due.is("SUM of " + corner + " by " + judge, x.sum(judge, 0, corner), sums[judge][corner]);
            }
        }
    }

    /** "CORNER C went forward in ROUND R by W (0 to 9; 0 without; the last one of both)". */
    private void forwardLast() {
        String judges = "j0,1,1,20,1,0,0;".repeat(3);
        ThreeCards x = Due.laid("f0,0,9;f0,0,2;f0,1,9;f0,1,0;f1,0,3;f11,0,4;f11,0,9;f11,1,1;" + judges);
        int[][] sums = {{2, 0}, {3, 0}, {0, 0}, {9, 1}};
        int[] rounds = {0, 1, 2, 11};
        for (int i = 0; i < 4; i++) {
            due.is("0 in ROUND " + rounds[i], x.sum(2, rounds[i], 0), sums[i][0]);
            due.is("1 in ROUND " + rounds[i], x.sum(2, rounds[i], 1), sums[i][1]);
        }
    }

    /** "at home is CORNER C, the noise is N (0 to 9; 0, 0 without; of several the last one counts)". */
    private void homeLast() {
        String fight = "r1;b0,0,0,1,6;b0,0,1,1,6;b0,9,1,1,6;" + "j0,1,0,20,1,2,0;".repeat(3);
        String[] homes = {"", "h0,1;", "h1,1;", "h0,9;h1,1;", "h1,9;h0,1;", "h1,9;h1,0;", "h1,1;h0,0;", "h0,9;", "h1,9;"};
        int[][] sums = {{0, 0}, {2, 0}, {0, 4}, {0, 4}, {2, 0}, {0, 0}, {0, 0}, {18, 0}, {0, 36}};
        for (int i = 0; i < homes.length; i++) {
            ThreeCards x = Due.laid(homes[i] + fight);
            due.is(homes[i] + " CORNER 0", x.sum(0, 0, 0), sums[i][0]);
            due.is(homes[i] + " CORNER 1", x.sum(0, 0, 1), sums[i][1]);
            ThreeCards behind = Due.laid(fight + homes[i]);
            due.is(homes[i] + " behind, CORNER 1", behind.sum(0, 0, 1), sums[i][1]);
        }
    }

    /** "noise times EARS times how many of its BLOWS are not SEEN": none, one, all; hardness and K do not matter. */
    private void homeUnseen() {
        String judges = "j0,1,0,20,9,9,0;j0,1,0,20,9,0,0;j6,1,0,20,1,9,0;";
        String[] blows = {"b0,0,0,1,0;", "b0,0,0,1,6;", "b0,179,0,9,6;", "b0,0,0,1,6;b0,0,0,9,6;", "b0,0,0,5,0;b0,0,0,9,6;"};
        int[] heard = {1, 81, 81, 162, 86};
        int[] deaf = {1, 0, 0, 0, 5};
        int[] there = {81, 1, 9, 10, 90};
        for (int i = 0; i < blows.length; i++) {
            ThreeCards x = Due.laid("h0,9;" + blows[i] + judges);
            due.is("EARS 9: " + blows[i], x.sum(0, 0, 0), heard[i]);
            due.is("EARS 0: " + blows[i], x.sum(1, 0, 0), deaf[i]);
            due.is("from SEAT 6: " + blows[i], x.sum(2, 0, 0), there[i]);
            due.is("of another ROUND", x.sum(0, 1, 0), 0);
        }
        due.is("none of the other's", Due.laid("h0,9;b0,0,1,1,6;" + judges).sum(0, 0, 1), 0);
    }

    /** A ROUND without ITEMS: SUM 0 of both, LEAD is L less 20. */
    private void sumOfNothing() {
        ThreeCards x = Due.laid("h0,9;j0,9,9,0,9,9,0;j0,9,9,20,9,9,0;j0,9,9,40,9,9,0;");
        int[] leads = {-20, 0, 20};
        for (int judge = 0; judge < 3; judge++) {
            for (int round = 0; round < 12; round++) {
                due.is("SUM of 0", x.sum(judge, round, 0), 0);
                due.is("SUM of 1", x.sum(judge, round, 1), 0);
                due.is("LEAD", x.lead(judge, round), leads[judge]);
            }
        }
    }

    /** The most that 500 bytes can tell of a ROUND. */
    private void greatestSums() {
        String late = "f0,0,9;" + "b0,170,0,9,0;".repeat(34) + "j0,9,9,40,9,0,0;".repeat(3);
        due.is("34 late BLOWS", Due.laid(late).sum(2, 0, 0), 34 * 729 + 81);
        due.is("LEAD of them", Due.laid(late).lead(2, 0), 34 * 729 + 81 + 20);
        String other = late.replace("0,170,0,", "0,170,1,").replace("f0,0,", "f0,1,").replace(",40,", ",0,");
        due.is("LEAD of 1", Due.laid(other).lead(2, 0), -34 * 729 - 81 - 20);
        due.is("not CLOSE", Due.laid(other).close(2, 0), 0);
        String unseen = "h1,9;f0,1,9;" + "b0,0,1,9,6;".repeat(40) + "j0,9,9,20,9,9,0;".repeat(3);
        due.is("40 BLOWS not SEEN", Due.laid(unseen).sum(0, 0, 1), 40 * 81 + 81);
        due.is("500 bytes", Due.laid(unseen).count(3), 500);
    }

    /** "LEAD: SUM of CORNER 0 less that of 1, and L less 20" (L 0 to 40); "BAD answers -100001": -1 is a LEAD. */
    private void leadOfLeaning() {
        for (int leans = 0; leans <= 40; leans++) {
            ThreeCards x = Due.laid("r1;b0,0,1,3,0;b0,0,0,1,0;" + ("j0,1,0," + leans + ",1,0,0;").repeat(3));
            due.is("L is " + leans, x.lead(1, 0), leans - 22);
        }
    }

    /** "CLOSE is a ROUND by a JUDGE, if LEAD is G or less off 0": G is, one more is not, above and below. */
    private void closeAtG() {
        for (int g = 0; g <= 20; g++) {
            for (int lead = -20; lead <= 20; lead++) {
                ThreeCards x = Due.laid("r1;" + ("j0,0,0," + (20 + lead) + ",1,0," + g + ";").repeat(3));
                due.is("LEAD " + lead + " of " + g, x.close(2, 0), lead <= g && -lead <= g ? 1 : 0);
            }
        }
    }

    /** "close is G (0 to 99)": at 0 LEAD 0 alone; at 99 to 99 off. */
    private void closeAtZeroAnd99() {
        String[] corners = {"0", "1"};
        for (int corner = 0; corner < 2; corner++) {
            // 81 by a BLOW, and 17 to 20 by leaning; 1 BLOW that counts nothing.
            for (int more = 17; more <= 20; more++) {
                int leans = corner == 0 ? 20 + more : 20 - more;
                ThreeCards x = Due.laid("r1;b0,0," + corners[corner] + ",9,0;" + ("j0,9,0," + leans + ",1,0,99;").repeat(3));
                due.is("off 0", Math.abs(x.lead(0, 0)), 81 + more);
                due.is(81 + more + " of 99", x.close(0, 0), more <= 18 ? 1 : 0);
            }
        }
        ThreeCards x = Due.laid("r1;j0,0,0,19,1,0,0;j0,0,0,20,1,0,0;j0,0,0,21,1,0,0;");
        due.is("-1 of 0", x.close(0, 0), 0);
        due.is("0 of 0", x.close(1, 0), 1);
        due.is("1 of 0", x.close(2, 0), 0);
    }

    private static long[] answers(ThreeCards x) {
        long[] all = new long[400];
        int at = 0;
        for (int judge = 0; judge < 3; judge++) {
            for (int round = 0; round < x.count(0); round++) {
                all[at++] = x.sum(judge, round, 0);
                all[at++] = x.sum(judge, round, 1);
                all[at++] = x.lead(judge, round);
                all[at++] = x.close(judge, round);
                all[at++] = x.buttons(round, 1, 0, judge);
            }
            for (int rule = 0; rule < 4; rule++) {
                all[at++] = x.margin(rule, judge, x.count(0) - 1);
                all[at++] = x.card(rule, judge);
                all[at++] = x.points(rule, judge, 0);
                all[at++] = x.points(rule, judge, 1);
                all[at++] = x.men(rule);
                all[at++] = x.others(rule, judge);
                all[at++] = x.end(rule, 0, 1, 2, 0);
                all[at++] = x.coins(rule, 0, 1, 2, judge, 0);
            }
        }
        for (int what = 0; what < 5; what++) {
            all[at++] = x.seats(what);
            all[at++] = x.buttons(-1, 1, 9, what);
            all[at++] = x.buttons(-1, 4, 0, what);
        }
        return all;
    }

    /** "ITEMS of a ROUND beyond N count in no rule (a BLOW there is a BLOW all the same ...)". */
    private void beyondTheRounds() {
        String judges = "j0,1,1,20,1,1,0;j3,2,1,22,2,0,3;j8,1,3,19,1,2,1;";
        String[] beyond = {"", "b#,9,1,9,6;", "b#,170,0,9,9;", "f#,0,9;", "f#,1,9;", "k#,0;k#,0;k#,0;", "k#,1;",
            "d#,0;d#,0;d#,0;", "d#,1;", "b#,1,0,9,0;b#,1,1,9,3;b#,1,1,9,6;b#,1,0,9,9;k#,0;k#,1;d#,0;d#,1;f#,0,1;f#,1,9;"};
        for (int rounds = 1; rounds < 12; rounds++) {
            String inside = "h1,2;b0,1,0,2,7;b" + (rounds - 1) + ",3,1,1,1;";
            long[] plain = answers(Due.laid(inside + judges + "r" + rounds + ";"));
            for (String more : beyond) {
                for (int there : new int[] {rounds, 11}) {
                    String text = inside + more.replace("#", "" + there) + judges + "r" + rounds + ";";
                    long[] all = answers(Due.laid(text));
                    for (int i = 0; i < all.length; i++) {
                        due.is("answer " + i + " of " + text, all[i], plain[i]);
                    }
                }
            }
        }
        ThreeCards x = Due.laid("b1,7,1,8,9;r1;" + THREE);
        due.is("a BLOW all the same", x.count(2), 1);
        int[] parts = {1, 7, 1, 8, 9, 7};
        for (int what = 0; what < 6; what++) {
            due.is("blow(0, " + what + ")", x.blow(0, what), parts[what]);
        }
        due.is("its ROUND is none", x.sum(0, 1, 1), BAD);
    }

    /** The last ROUND of N is none beyond it: each ITEM there counts. */
    private void lastRoundCounts() {
        String judges = "j0,1,1,20,1,1,0;".repeat(3);
        for (int rounds = 1; rounds <= 12; rounds++) {
            int last = rounds - 1;
            String r = judges + "r" + rounds + ";";
            due.is("a BLOW in " + last, Due.laid("b" + last + ",9,1,9,0;" + r).sum(2, last, 1), 9);
            due.is("MISSED in " + last, Due.laid("b" + last + ",9,1,9,6;" + r).buttons(-1, 1, 0, 3), 1);
            due.is("SEATS of " + last, Due.laid("b" + last + ",9,1,9,6;" + r).seats(1), 2);
            due.is("hardness in " + last, Due.laid("b" + last + ",9,1,9,6;" + r).men(0), 7);
            due.is("forward in " + last, Due.laid("f" + last + ",0,7;" + r).lead(0, last), 7);
            due.is("noise in " + last, Due.laid("h0,3;b" + last + ",9,0,9,6;" + r).sum(0, last, 0), 3);
            due.is("a knockdown in " + last, Due.laid("k" + last + ",0;" + r).margin(2, 0, last), -2);
            due.is("a point taken in " + last, Due.laid("d" + last + ",1;" + r).card(2, 0), 2);
            due.is("of POINTS, too, in " + last, Due.laid("d" + last + ",1;" + r).points(2, 0, 1), 20 * rounds - 2);
            due.is("no ROUND behind " + last, Due.laid(r).lead(0, rounds), BAD_LEAD);
        }
    }

    /** "... for the 40, for blow() and count(); the 3 of k and d hold there, too". */
    private void beyondTheRoundsForTheMost() {
        String blow = "b9,0,0,1,0;";
        ThreeCards x = new ThreeCards();
        Due.put(x, "r1;" + THREE + blow.repeat(40));
        due.is("40 of them", x.fault(), -4);
        due.is("laid", x.lay(), 3);
        due.is("40 BLOWS", x.count(2), 40);
        due.is("the last one", x.blow(39, 0), 9);
        x.wipe();
        Due.put(x, "r1;" + THREE + blow.repeat(39) + "b0,0,0,1,0;");
        due.is("39 and one in ROUND 0", x.fault(), -4);
        x.wipe();
        Due.put(x, "r1;" + blow.repeat(40) + "b0,0,0,1,0;" + THREE);
        due.is("the 41st in ROUND 0", x.fault(), 443);
        for (String letter : new String[] {"k", "d"}) {
            String three = (letter + "1,0;").repeat(2) + letter + "1,1;";
            due.is("three there", Due.laid("r1;" + three + THREE).card(2, 0), 0);
            x.wipe();
            Due.put(x, "r1;" + three + letter + "1,0;" + THREE);
            due.is("a fourth there", x.fault(), 18);
            due.is("is not laid", x.lay(), -2);
        }
    }

    /** "BAD: a number is none that is told (ROUNDS, JUDGES: such as there are)": one below, one beyond; the last ones are. */
    private void refused() {
        for (int rounds : new int[] {1, 12}) {
            for (int judges : new int[] {3, 8}) {
                ThreeCards x = Due.laid("r" + rounds + ";" + JUDGE.repeat(judges));
                int[][] at = {{-1, 0, 0}, {judges, 0, 0}, {0, -1, 0}, {0, rounds, 0}, {judges, rounds, 0}};
                for (int[] n : at) {
                    due.is("sum(" + n[0] + ", " + n[1] + ")", x.sum(n[0], n[1], n[2]), BAD);
                    due.is("lead(" + n[0] + ", " + n[1] + ")", x.lead(n[0], n[1]), BAD_LEAD);
                    due.is("close(" + n[0] + ", " + n[1] + ")", x.close(n[0], n[1]), BAD);
                }
                due.is("CORNER -1", x.sum(0, 0, -1), BAD);
                due.is("CORNER 2", x.sum(0, 0, 2), BAD);
                due.is("the last of both: SUM", x.sum(judges - 1, rounds - 1, 1), 0);
                due.is("the last of both: LEAD", x.lead(judges - 1, rounds - 1), 0);
                due.is("the last of both: CLOSE", x.close(judges - 1, rounds - 1), 1);
            }
        }
    }
}
