/**
 * The sentences of Terms 3 about BUTTONS, and promises 18 and 19, at their edges and on both sides of these. Above each
 * test stands what the document says.
 */
public final class ButtonsEdgeTest {
    private static final int BAD = -1;
    private static final String HERE = Pair.JUDGE;
    private static final String THERE = "j6,1,0,20,1,0,0;";

    private final Due due = new Due();

    public static void main(String[] args) {
        ButtonsEdgeTest test = new ButtonsEdgeTest();
        test.delayAtItsEnds();
        test.withinSeconds();
        test.tenSecondsApart();
        test.enoughJudges();
        test.moreWantedThanThereAre();
        test.firstOfEachIsUsed();
        test.usedOnceOnly();
        test.elseThatPressAlone();
        test.onlyWhatIsSeen();
        test.roundsAndCornersByThemselves();
        test.noBlows();
        test.mostBlows();
        test.madeFrom();
        test.madeRoundByRound();
        test.roundsAtTheirEnds();
        test.refused();
        test.due.close();
    }

    /** "DELAY of i, 0 to 9; 0 at first"; "what it was. BAD": of each JUDGE, the first and the last. */
    private void delayAtItsEnds() {
        for (int judges : new int[] {3, 8}) {
            ThreeCards x = Due.laid(HERE.repeat(judges));
            for (int judge = 0; judge < judges; judge++) {
                due.is("0 at first", x.delay(judge, 9), 0);
                due.is("9 it was", x.delay(judge, 0), 9);
                due.is("10 is BAD", x.delay(judge, 10), BAD);
                due.is("-1 is BAD", x.delay(judge, -1), BAD);
                due.is("0 it was", x.delay(judge, judge), 0);
            }
            due.is("one JUDGE more", x.delay(judges, 5), BAD);
            due.is("JUDGE -1", x.delay(-1, 5), BAD);
            for (int judge = 0; judge < judges; judge++) {
                due.is("nothing changes", x.delay(judge, 0), judge);
            }
        }
        due.is("of a new object", new ThreeCards().delay(2, 9), 0);
        due.is("of a new object's fourth", new ThreeCards().delay(3, 9), BAD);
    }

    /** "if within w seconds (0 to 9) from it on (that one, too)": w apart is within, w and one more is not. */
    private void withinSeconds() {
        for (int apart = 0; apart <= 9; apart++) {
            ThreeCards x = Due.laid("r1;b0,100,0,1,0;b0,100,1,1,6;" + HERE + HERE + THERE);
            x.delay(1, apart);
            x.delay(2, apart);
            for (int w = 0; w <= 9; w++) {
                due.is(apart + " apart, within " + w, x.buttons(0, 2, w, 0), apart <= w ? 1 : 0);
                due.is(apart + " apart, q 1 within " + w, x.buttons(0, 1, w, 0), apart <= w ? 1 : 2);
                due.is("one JUDGE alone within " + w, x.buttons(0, 2, w, 1), 0);
            }
            x.delay(0, apart);
            x.delay(1, 0);
            due.is("the second one first", x.buttons(0, 2, apart, 0), 1);
        }
    }

    /** Ten seconds and more apart are within no w; the BLOW alone tells, too. */
    private void tenSecondsApart() {
        ThreeCards x = Due.laid("r1;b0,100,0,1,0;b0,109,0,1,6;" + HERE + THERE + THERE);
        due.is("9 apart within 9", x.buttons(0, 2, 9, 0), 1);
        due.is("9 apart within 8", x.buttons(0, 2, 8, 0), 1);
        due.is("three within 9", x.buttons(0, 3, 9, 0), 1);
        due.is("three within 8", x.buttons(0, 3, 8, 0), 0);
        x.delay(1, 1);
        x.delay(2, 1);
        due.is("10 apart: three within 9", x.buttons(0, 3, 9, 0), 0);
        x.delay(0, 1);
        due.is("9 apart again", x.buttons(0, 3, 9, 0), 1);
        x.delay(0, 9);
        x.delay(1, 0);
        x.delay(2, 0);
        due.is("alike: three within 0", x.buttons(0, 3, 0, 0), 1);
    }

    /** "q or more JUDGES (1 to 8)": one fewer does not. */
    private void enoughJudges() {
        for (int here = 0; here <= 8; here++) {
            ThreeCards x = Due.laid("r1;b0,100,0,1,0;b0,120,1,1,6;" + HERE.repeat(here) + THERE.repeat(8 - here));
            for (int q = 1; q <= 8; q++) {
                due.is(q + " of " + here, x.buttons(0, q, 0, 0), here >= q ? 1 : 0);
                due.is(q + " of " + (8 - here), x.buttons(0, q, 9, 1), 8 - here >= q ? 1 : 0);
            }
            due.is("q 0", x.buttons(0, 0, 0, 0), BAD);
            due.is("q 9", x.buttons(0, 9, 0, 0), BAD);
        }
    }

    /** q is 1 to 8 also where there are three JUDGES: 3 make a POINT, 4 never. */
    private void moreWantedThanThereAre() {
        ThreeCards x = Due.laid("r1;b0,100,0,1,0;" + HERE.repeat(3));
        for (int q = 1; q <= 8; q++) {
            due.is(q + " of three", x.buttons(-1, q, 9, 0), q <= 3 ? 1 : 0);
            due.is(q + " of three: MISSED", x.buttons(-1, q, 9, 3), q <= 3 ? 0 : 1);
        }
    }

    /** "the first such one of each of them is used": two presses of one JUDGE are not two JUDGES. */
    private void firstOfEachIsUsed() {
        ThreeCards x = Due.laid("r1;b0,100,0,1,0;b0,100,0,1,0;b0,100,0,1,3;" + HERE + THERE + THERE);
        // JUDGE 0 presses three times at 100, JUDGES 1 and 2 once.
        due.is("three at once: one POINT", x.buttons(0, 3, 0, 0), 1);
        due.is("two at once: one POINT", x.buttons(0, 2, 0, 0), 1);
        due.is("one: three POINTS", x.buttons(0, 1, 0, 0), 3);
        ThreeCards alone = Due.laid("r1;" + "b0,100,0,1,0;".repeat(8) + HERE + THERE + THERE);
        due.is("eight presses of one are not two JUDGES", alone.buttons(0, 2, 9, 0), 0);
        due.is("each a POINT of one", alone.buttons(0, 1, 9, 0), 8);
    }

    /** "presses not used": none makes two POINTS. */
    private void usedOnceOnly() {
        ThreeCards x = Due.laid("r1;b0,100,0,1,0;" + HERE.repeat(4));
        x.delay(1, 2);
        x.delay(2, 3);
        x.delay(3, 5);
        // 100, 102, 103, 105: with q 2 within 2 two pairs; within 3 three and one; within 1 the middle two.
        due.is("within 0", x.buttons(0, 2, 0, 0), 0);
        due.is("within 1", x.buttons(0, 2, 1, 0), 1);
        due.is("within 2", x.buttons(0, 2, 2, 0), 2);
        due.is("within 3", x.buttons(0, 2, 3, 0), 1);
        due.is("within 5", x.buttons(0, 2, 5, 0), 1);
        due.is("three within 2", x.buttons(0, 3, 2, 0), 0);
        due.is("three within 3", x.buttons(0, 3, 3, 0), 1);
        due.is("four within 4", x.buttons(0, 4, 4, 0), 0);
        due.is("four within 5", x.buttons(0, 4, 5, 0), 1);
    }

    /** "else that press alone is used": the next one tries anew. */
    private void elseThatPressAlone() {
        ThreeCards x = Due.laid("r1;b0,100,0,1,0;b0,103,0,1,0;" + HERE.repeat(3));
        x.delay(1, 1);
        x.delay(2, 4);
        // JUDGE 0: 100, 103; JUDGE 1: 101, 104; JUDGE 2: 104, 107.
        due.is("three within 3: 101, 103, 104", x.buttons(0, 3, 3, 0), 1);
        due.is("three within 4: 100, 101, 104; then 103, 104, 107", x.buttons(0, 3, 4, 0), 2);
        due.is("three within 2: 103, 104, 104", x.buttons(0, 3, 2, 0), 1);
        due.is("three within 1: 103, 104, 104", x.buttons(0, 3, 1, 0), 1);
        due.is("three within 0", x.buttons(0, 3, 0, 0), 0);
        due.is("two within 0: 104", x.buttons(0, 2, 0, 0), 1);
        due.is("two within 1: 100, 101; 103, 104, 104", x.buttons(0, 2, 1, 0), 2);
    }

    /** "behind each BLOW that it SEES": SIDE 4 off is, 5 off is not. */
    private void onlyWhatIsSeen() {
        for (int side = 0; side < 12; side++) {
            ThreeCards x = Due.laid("r1;b0,100,1,1," + side + ";" + HERE.repeat(3));
            due.is("SIDE " + side, x.buttons(0, 3, 0, 1), side <= 4 || side >= 8 ? 1 : 0);
        }
    }

    /** "In a ROUND, for each CORNER by itself": a press behind second 179 is none of the next ROUND. */
    private void roundsAndCornersByThemselves() {
        ThreeCards x = Due.laid("r2;b0,179,0,1,0;b1,0,0,1,6;b1,4,1,1,0;b1,4,0,1,6;" + HERE + HERE + THERE);
        x.delay(0, 9);
        x.delay(1, 9);
        due.is("188 and 188", x.buttons(0, 2, 0, 0), 1);
        due.is("not with the next ROUND", x.buttons(0, 3, 9, 0), 0);
        due.is("nor with the one ahead", x.buttons(1, 2, 9, 0), 0);
        due.is("nor with the other CORNER", x.buttons(1, 3, 9, 1), 0);
        due.is("two of the other CORNER", x.buttons(1, 2, 0, 1), 1);
        due.is("in all", x.buttons(-1, 2, 0, 0), 1);
    }

    /** Without BLOWS there is nothing: no POINTS, none MADE, none MISSED. */
    private void noBlows() {
        ThreeCards x = new ThreeCards();
        for (int round = -1; round <= 11; round++) {
            for (int what = 0; what <= 3; what++) {
                due.is("buttons(" + round + ", 1, 9, " + what + ")", x.buttons(round, 1, 9, what), 0);
            }
        }
    }

    /** 40 BLOWS of one CORNER in one ROUND: SEEN by all, by one, by none. */
    private void mostBlows() {
        String[] judges = {HERE + HERE + HERE, HERE + THERE + THERE, THERE + THERE + THERE};
        int[][] points = {{40, 40, 40}, {40, 0, 0}, {0, 0, 0}};
        for (int corner = 0; corner < 2; corner++) {
            for (int i = 0; i < 3; i++) {
                StringBuilder text = new StringBuilder(judges[i]);
                for (int k = 0; k < 40; k++) {
                    text.append("b0,").append(k % 10).append(',').append(corner).append(",1,0;");
                }
                ThreeCards x = Due.laid(text.toString());
                due.is("40 BLOWS", x.count(2), 40);
                for (int q = 1; q <= 3; q++) {
                    int want = points[i][q - 1];
                    due.is("POINTS with " + q, x.buttons(-1, q, 9, corner), want);
                    due.is("POINTS within 0 with " + q, x.buttons(0, q, 0, corner), want);
                    due.is("none of the other", x.buttons(-1, q, 9, 1 - corner), 0);
                    due.is("MISSED with " + q, x.buttons(-1, q, 9, 3), 40 - want);
                }
            }
        }
    }

    /** "MADE: POINTS more than BLOWS of both CORNERS (0, where fewer); MISSED likewise": one more, as many, one fewer. */
    private void madeFrom() {
        String[] fights = {"b0,10,0,1,0;", "b0,10,0,1,0;b0,90,1,1,6;", "b0,10,0,1,0;b0,90,1,1,6;b0,99,1,1,6;",
            "b0,10,0,1,0;b0,90,1,1,6;b0,99,1,1,6;b0,120,0,1,6;"};
        // q 1 within 0 with delays 0, 4: two POINTS by BLOWS that show to SIDE 0, none by the others.
        int[] made = {1, 0, 0, 0};
        int[] missed = {0, 0, 1, 2};
        for (int i = 0; i < fights.length; i++) {
            ThreeCards x = Due.laid("r1;" + fights[i] + HERE.repeat(3));
            x.delay(1, 4);
            x.delay(2, 4);
            due.is("POINTS", x.buttons(0, 1, 0, 0), 2);
            due.is("none of the other", x.buttons(0, 1, 0, 1), 0);
            due.is("MADE " + i, x.buttons(0, 1, 0, 2), made[i]);
            due.is("MISSED " + i, x.buttons(0, 1, 0, 3), missed[i]);
            due.is("MADE in all " + i, x.buttons(-1, 1, 0, 2), made[i]);
            due.is("MISSED in all " + i, x.buttons(-1, 1, 0, 3), missed[i]);
        }
    }

    /** "ROUND by ROUND (0, where fewer)": one MADE here does not make good one MISSED there. */
    private void madeRoundByRound() {
        ThreeCards x = Due.laid("r3;b0,10,0,1,0;b1,10,1,1,6;b2,10,1,1,0;b2,90,0,1,6;" + HERE.repeat(3));
        x.delay(2, 9);
        // POINTS 2, 0, 2 of BLOWS 1, 1, 2.
        int[][] want = {{2, 0, 1, 0}, {0, 0, 0, 1}, {0, 2, 0, 0}};
        int[] all = {2, 2, 1, 1};
        for (int what = 0; what < 4; what++) {
            for (int round = 0; round < 3; round++) {
                due.is("ROUND " + round + ", what " + what, x.buttons(round, 1, 0, what), want[round][what]);
            }
            due.is("in all, what " + what, x.buttons(-1, 1, 0, what), all[what]);
        }
    }

    /** "in a ROUND (round -1: in all)": -2 is BAD, the last one of N is not, N is. */
    private void roundsAtTheirEnds() {
        for (int rounds = 1; rounds <= 12; rounds++) {
            int last = rounds - 1;
            ThreeCards x = Due.laid("b" + last + ",10,0,1,0;b0,90,0,1,0;r" + rounds + ";" + HERE.repeat(3));
            due.is("-2", x.buttons(-2, 1, 0, 0), BAD);
            due.is("in all", x.buttons(-1, 3, 0, 0), 2);
            due.is("the last one", x.buttons(last, 3, 0, 0), rounds == 1 ? 2 : 1);
            due.is("one more", x.buttons(rounds, 3, 0, 0), BAD);
        }
    }

    /** "BAD ...; nothing changes then": DELAYS, POINTS are as they were. */
    private void refused() {
        Pair pair = Pair.laid(Pair.MOST_JUDGES).noted(1);
        int[][] bad = {{-2, 1, 0, 0}, {12, 1, 0, 0}, {0, 0, 0, 0}, {0, 9, 0, 0}, {0, 1, -1, 0}, {0, 1, 10, 0}, {0, 1, 0, -1},
            {0, 1, 0, 4}};
        for (int[] b : bad) {
            due.is("buttons BAD", pair.x.buttons(b[0], b[1], b[2], b[3]), BAD);
        }
        int[][] late = {{-1, 1}, {8, 1}, {0, -1}, {0, 10}, {7, 10}};
        for (int[] b : late) {
            due.is("delay BAD", pair.x.delay(b[0], b[1]), BAD);
        }
        State.same(due, "BAD buttons and delays", pair);
    }
}
