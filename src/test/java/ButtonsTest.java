/** Promises 18 and 19: DELAY, BUTTONS. */
public final class ButtonsTest {
    private static final int BAD = -1;
    private static final String HERE = "j0,1,0,20,1,0,0;";

    private final Due due = new Due();

    public static void main(String[] args) {
        ButtonsTest test = new ButtonsTest();
        test.delay();
        test.pointByMany();
        test.firstPressAlone();
        test.firstOfEach();
        test.behindTheRound();
        test.orderOfBlows();
        test.delayGoesBehind();
        test.mostPresses();
        test.unseen();
        test.madeAndMissed();
        test.roundByRound();
        test.wrongNumbers();
        test.due.close();
    }

    private void delay() {
        ThreeCards x = Due.laid(HERE.repeat(4));
        due.is("0 at first", x.delay(3, 9), 0);
        due.is("what it was", x.delay(3, 0), 9);
        due.is("what it was", x.delay(3, 4), 0);
        due.is("the others stay", x.delay(2, 1), 0);
        due.is("JUDGE 4", x.delay(4, 1), BAD);
        due.is("JUDGE -1", x.delay(-1, 1), BAD);
        due.is("10 seconds", x.delay(3, 10), BAD);
        due.is("-1 second", x.delay(3, -1), BAD);
        due.is("nothing changes", x.delay(3, 4), 4);
    }

    private void pointByMany() {
        ThreeCards x = Due.laid("b0,10,0,1,0;b0,10,1,1,0;" + HERE.repeat(5));
        for (int q = 1; q <= 8; q++) {
            due.is("all at once, " + q + " wanted", x.buttons(0, q, 0, 0), q <= 5 ? 1 : 0);
            due.is("the other CORNER, " + q + " wanted", x.buttons(0, q, 0, 1), q <= 5 ? 1 : 0);
        }
        x.delay(1, 1);
        x.delay(2, 2);
        x.delay(3, 3);
        x.delay(4, 9);
        due.is("within 0", x.buttons(0, 2, 0, 0), 0);
        due.is("two within 1", x.buttons(0, 2, 1, 0), 2);
        due.is("three within 1", x.buttons(0, 3, 1, 0), 0);
        due.is("three within 2", x.buttons(0, 3, 2, 0), 1);
        due.is("five within 8", x.buttons(0, 5, 8, 0), 0);
        due.is("five within 9", x.buttons(0, 5, 9, 0), 1);
        due.is("four within 9", x.buttons(0, 4, 9, 0), 1);
        due.is("each alone", x.buttons(0, 1, 0, 0), 5);
    }

    /** Presses at 10 (JUDGE 0), 12 (1), 13 (2): with 2 within 1 the first is used alone. */
    private void firstPressAlone() {
        ThreeCards x = Due.laid("b0,10,0,1,0;" + HERE.repeat(3));
        x.delay(1, 2);
        x.delay(2, 3);
        due.is("2 within 1", x.buttons(0, 2, 1, 0), 1);
        due.is("3 within 2", x.buttons(0, 3, 2, 0), 0);
        due.is("2 within 2 leaves the last", x.buttons(0, 2, 2, 0), 1);
        due.is("1 within 2: two, then one", x.buttons(0, 1, 2, 0), 2);
    }

    /** Two BLOWS within w: of each JUDGE the first press alone is used by a POINT. */
    private void firstOfEach() {
        ThreeCards x = Due.laid("b0,10,0,1,0;b0,11,0,1,0;b0,11,0,1,0;" + HERE.repeat(3));
        due.is("three BLOWS, three POINTS", x.buttons(0, 3, 5, 0), 3);
        x.delay(2, 1);
        // JUDGES 0 and 1: 10, 11, 11. JUDGE 2: 11, 12, 12.
        due.is("within 0: at 11 once", x.buttons(0, 3, 0, 0), 1);
        due.is("within 1: 10, 11, 11", x.buttons(0, 3, 1, 0), 3);
        x.delay(2, 9);
        // JUDGE 2: 19, 20, 20.
        due.is("two within 0", x.buttons(0, 2, 0, 0), 3);
        due.is("one within 0: JUDGE 2 by himself", x.buttons(0, 1, 0, 0), 6);
        due.is("one within 9: at 10 all three", x.buttons(0, 1, 9, 0), 3);
        due.is("one within 8: at 10 two, at 11 all three, at 11 two, then JUDGE 2 twice", x.buttons(0, 1, 8, 0), 5);
    }

    private void behindTheRound() {
        ThreeCards x = Due.laid("b0,179,0,1,0;" + HERE.repeat(3));
        x.delay(0, 9);
        x.delay(1, 9);
        due.is("presses at 188", x.buttons(0, 2, 0, 0), 1);
        due.is("within 9 from 179", x.buttons(0, 3, 9, 0), 1);
        due.is("within 8 from 179", x.buttons(0, 3, 8, 0), 0);
    }

    private void orderOfBlows() {
        String late = "b0,30,0,1,0;b0,20,0,1,0;b0,10,0,1,0;";
        ThreeCards x = Due.laid(late + HERE.repeat(3));
        due.is("told the other way about", x.buttons(0, 3, 0, 0), 3);
        // JUDGE 1 SEES those at 10 and 30, JUDGE 2 the one at 20.
        ThreeCards y = Due.laid("b0,30,0,1,2;b0,20,0,1,10;b0,10,0,1,2;" + HERE + "j5,1,0,20,1,0,0;j8,1,0,20,1,0,0;");
        due.is("two each", y.buttons(0, 2, 0, 0), 3);
        due.is("three each", y.buttons(0, 3, 0, 0), 0);
    }

    /** JUDGE 0 SEES the BLOW at 10, JUDGE 1 that at 14, JUDGE 2 none. */
    private void delayGoesBehind() {
        ThreeCards x = Due.laid("b0,14,0,1,6;b0,10,0,1,0;" + HERE + "j6,1,0,20,1,0,0;j6,1,0,20,1,0,0;");
        x.delay(2, 9);
        x.delay(1, 4);
        due.is("10 and 18", x.buttons(0, 2, 0, 0), 0);
        due.is("10 and 18 within 7", x.buttons(0, 2, 7, 0), 1);
        x.delay(1, 0);
        x.delay(0, 4);
        due.is("14 and 14", x.buttons(0, 2, 0, 0), 1);
        ThreeCards y = Due.laid("b0,30,0,1,0;b0,22,0,1,6;b0,10,0,1,0;b0,15,0,1,6;" + HERE + HERE + "j6,1,0,20,1,0,0;");
        // JUDGES 0 and 1: 10, 30; JUDGE 2: 15, 22.
        due.is("three within 9: at 10 with 15, at 22 with 30", y.buttons(0, 3, 9, 0), 2);
        due.is("three within 8: at 22 with 30", y.buttons(0, 3, 8, 0), 2);
        due.is("three within 7", y.buttons(0, 3, 7, 0), 1);
        due.is("three within 4", y.buttons(0, 3, 4, 0), 0);
    }

    private void mostPresses() {
        ThreeCards x = Due.laid("b0,0,0,1,0;".repeat(34) + "j0,0,0,0,1,0,0;".repeat(8));
        for (int judge = 0; judge < 8; judge++) {
            x.delay(judge, judge);
        }
        due.is("each press a POINT", x.buttons(0, 1, 0, 0), 34 * 8);
        due.is("MADE", x.buttons(-1, 1, 0, 2), 34 * 7);
        due.is("eight within 7", x.buttons(0, 8, 7, 0), 34);
        due.is("eight within 6", x.buttons(0, 8, 6, 0), 0);
    }

    private void unseen() {
        ThreeCards x = Due.laid("b0,10,0,1,6;b0,10,1,1,0;" + HERE.repeat(2) + "j6,1,0,20,1,0,0;");
        due.is("one SEES it", x.buttons(0, 1, 9, 0), 1);
        due.is("not two", x.buttons(0, 2, 9, 0), 0);
        due.is("two SEE the other", x.buttons(0, 2, 9, 1), 1);
        due.is("not three", x.buttons(0, 3, 9, 1), 0);
        due.is("one MISSED", x.buttons(0, 2, 9, 3), 1);
        ThreeCards none = Due.laid("b0,10,0,1,6;" + HERE.repeat(3));
        due.is("nobody SEES it", none.buttons(0, 1, 9, 0), 0);
        due.is("it is MISSED", none.buttons(0, 1, 9, 3), 1);
    }

    private void madeAndMissed() {
        ThreeCards x = Due.laid("b0,10,0,1,0;b0,50,1,1,6;" + HERE.repeat(3));
        x.delay(1, 4);
        x.delay(2, 8);
        // CORNER 0: three POINTS of one BLOW; CORNER 1: none of one.
        due.is("POINTS", x.buttons(0, 1, 0, 0), 3);
        due.is("POINTS of the other", x.buttons(0, 1, 0, 1), 0);
        due.is("MADE of both CORNERS together", x.buttons(0, 1, 0, 2), 1);
        due.is("MISSED likewise", x.buttons(0, 1, 0, 3), 0);
        due.is("none MADE within 9", x.buttons(0, 1, 9, 2), 0);
        due.is("one MISSED within 9", x.buttons(0, 1, 9, 3), 1);
        due.is("both MISSED", x.buttons(0, 4, 9, 3), 2);
        due.is("none MADE", x.buttons(0, 4, 9, 2), 0);
    }

    private void roundByRound() {
        // ROUND 0: two POINTS more than BLOWS; ROUND 2: two fewer; ROUND 4 is beyond.
        ThreeCards x = Due.laid("r3;b0,10,0,1,0;b2,10,0,1,6;b2,20,1,1,6;b4,1,1,1,0;" + HERE.repeat(3));
        x.delay(1, 4);
        x.delay(2, 8);
        int[][] each = {{3, 0, 2, 0}, {0, 0, 0, 0}, {0, 0, 0, 2}};
        for (int round = 0; round < 3; round++) {
            for (int what = 0; what < 4; what++) {
                due.is("ROUND " + round + ", what " + what, x.buttons(round, 1, 0, what), each[round][what]);
            }
        }
        int[] all = {3, 0, 2, 2};
        for (int what = 0; what < 4; what++) {
            due.is("in all, what " + what, x.buttons(-1, 1, 0, what), all[what]);
        }
    }

    private void wrongNumbers() {
        ThreeCards x = Due.laid("r3;b0,10,0,1,0;" + HERE.repeat(3));
        due.is("ROUND 3", x.buttons(3, 1, 0, 0), BAD);
        due.is("ROUND -2", x.buttons(-2, 1, 0, 0), BAD);
        due.is("q 0", x.buttons(0, 0, 0, 0), BAD);
        due.is("q 9", x.buttons(0, 9, 0, 0), BAD);
        due.is("q 8 of three", x.buttons(0, 8, 0, 0), 0);
        due.is("w -1", x.buttons(0, 1, -1, 0), BAD);
        due.is("w 10", x.buttons(0, 1, 10, 0), BAD);
        due.is("what -1", x.buttons(0, 1, 0, -1), BAD);
        due.is("what 4", x.buttons(0, 1, 0, 4), BAD);
    }
}
