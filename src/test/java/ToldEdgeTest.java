/**
 * The sentences of Terms 3 about TOLD cards, and promises 20 to 24, at their edges and on both sides of these. Above each
 * test stands what the document says.
 */
public final class ToldEdgeTest {
    private static final int BAD = -1, NONE = -4, BAD_TOLD = -22, BAD_LEAN = -100001, UNTOLD = -21;

    private final Due due = new Due();

    public static void main(String[] args) {
        ToldEdgeTest test = new ToldEdgeTest();
        test.marginsAtTheirEnds();
        test.namesAndNights();
        test.tellNone();
        test.sameAboutZero();
        test.sameOfNoAndAllNights();
        test.byChanceCut();
        test.sameOfOneNameTwice();
        test.leanWithoutOthers();
        test.leanAtItsEnds();
        test.leanCut();
        test.unlikeNeedsTwo();
        test.unlikeLowerMiddle();
        test.unlikeTheFirst();
        test.unlikeAtTheEnds();
        test.addedFirst();
        test.addedSums();
        test.refused();
        test.due.close();
    }

    private static void tellRow(ThreeCards x, int name, int... margins) {
        for (int night = 0; night < margins.length; night++) {
            x.tell(name, night, margins[night]);
        }
    }

    private static void tellNight(ThreeCards x, int night, int... margins) {
        for (int name = 0; name < margins.length; name++) {
            x.tell(name, night, margins[name]);
        }
    }

    /** "a MARGIN (-20 to 20; none at first)"; "(or none: -21)"; "BAD answers -22": 21 and -22 are BAD. */
    private void marginsAtTheirEnds() {
        ThreeCards x = new ThreeCards();
        int was = UNTOLD;
        for (int margin = -21; margin <= 20; margin++) {
            due.is("tell " + margin, x.tell(0, 0, margin), was);
            was = margin;
        }
        for (int margin : new int[] {-22, -23, 21, 22, Integer.MIN_VALUE, Integer.MAX_VALUE}) {
            due.is("tell " + margin, x.tell(0, 0, margin), BAD_TOLD);
        }
        due.is("nothing changes", x.tell(0, 0, -20), 20);
        due.is("-20 it was", x.tell(0, 0, 20), -20);
        due.is("one is TOLD", x.count(4), 1);
    }

    /** "of 6 NAMES, 24 NIGHTS": each its own; one beyond is BAD. */
    private void namesAndNights() {
        ThreeCards x = new ThreeCards();
        for (int i = 0; i < 144; i++) {
            due.is("none at first", x.tell(i / 24, i % 24, i % 41 - 20), UNTOLD);
        }
        due.is("144 TOLD", x.count(4), 144);
        for (int night = -1; night <= 24; night += 25) {
            for (int name = 0; name < 6; name++) {
                due.is("NIGHT " + night, x.tell(name, night, 0), BAD_TOLD);
            }
        }
        for (int night = 0; night < 24; night++) {
            due.is("NAME -1", x.tell(-1, night, 0), BAD_TOLD);
            due.is("NAME 6", x.tell(6, night, 0), BAD_TOLD);
        }
        for (int i = 0; i < 144; i++) {
            due.is("each as told", x.tell(i / 24, i % 24, UNTOLD), i % 41 - 20);
        }
        due.is("none TOLD", x.count(4), 0);
    }

    /** "(or none: -21)": none is told of it then, and 0 is another thing. */
    private void tellNone() {
        ThreeCards x = new ThreeCards();
        due.is("none of none", x.tell(1, 1, UNTOLD), UNTOLD);
        due.is("none TOLD", x.count(4), 0);
        x.tell(0, 0, 0);
        x.tell(1, 0, 0);
        due.is("0 is TOLD", x.count(4), 2);
        due.is("both 0", x.same(0, 1, 0), 1);
        due.is("lean of one NIGHT", x.lean(0, 1), 1);
        due.is("none now", x.tell(1, 0, UNTOLD), 0);
        due.is("one TOLD", x.count(4), 1);
        due.is("no NIGHT of both", x.same(0, 1, 1), 0);
        due.is("lean of none", x.lean(0, 1), 0);
    }

    /** "in which both are above, below 0 or both 0": -1, 0 and 1 are three things, 1 and 20 one. */
    private void sameAboutZero() {
        int[] margins = {-20, -1, 0, 1, 20};
        for (int one : margins) {
            for (int other : margins) {
                ThreeCards x = new ThreeCards();
                x.tell(0, 23, one);
                x.tell(5, 23, other);
                int same = Integer.signum(one) == Integer.signum(other) ? 1 : 0;
                due.is(one + " and " + other, x.same(0, 5, 0), same);
                due.is(other + " and " + one, x.same(5, 0, 0), same);
                due.is("of one NIGHT", x.same(0, 5, 1), 1);
                due.is("BY CHANCE of one NIGHT", x.same(0, 5, 2), same);
            }
        }
    }

    /** "NIGHTS told of both ... of how many"; "BY CHANCE (2; NONE of no NIGHTS)": none and 24. */
    private void sameOfNoAndAllNights() {
        ThreeCards x = new ThreeCards();
        due.is("none", x.same(0, 1, 0), 0);
        due.is("of none", x.same(0, 1, 1), 0);
        due.is("NONE", x.same(0, 1, 2), NONE);
        for (int night = 0; night < 12; night++) {
            x.tell(0, night, 1);
            x.tell(1, 12 + night, 1);
        }
        due.is("none of both", x.same(0, 1, 1), 0);
        due.is("NONE of both", x.same(0, 1, 2), NONE);
        for (int night = 0; night < 12; night++) {
            x.tell(1, night, 2);
            x.tell(0, 12 + night, 2);
            due.is("of " + 2 * (night + 1), x.same(1, 0, 1), 2 * (night + 1));
            due.is("all alike", x.same(1, 0, 0), 2 * (night + 1));
            due.is("all BY CHANCE", x.same(1, 0, 2), 2 * (night + 1));
        }
        due.is("24", x.same(0, 1, 1), 24);
    }

    /** "the sum over above, below, 0 of how many the one has times how many the other has) by how many, cut". */
    private void byChanceCut() {
        // In four NIGHTS: above 3, below 1; above 1, below 2, 0 once; above 3, below 1; 0 four times.
        ThreeCards x = new ThreeCards();
        tellRow(x, 0, 1, 1, 1, -1);
        tellRow(x, 1, 1, -1, -1, 0);
        tellRow(x, 2, 2, 3, -1, 5, 7);
        tellRow(x, 3, 0, 0, 0, 0);
        due.is("3 * 1 + 1 * 2 = 5 by 4", x.same(0, 1, 2), 1);
        due.is("3 * 3 + 1 * 1 = 10 by 4", x.same(0, 2, 2), 2);
        due.is("1 * 3 + 2 * 1 = 5 by 4", x.same(1, 2, 2), 1);
        due.is("0 by 4", x.same(0, 3, 2), 0);
        due.is("1 * 4 by 4", x.same(1, 3, 2), 1);
        x.tell(1, 3, UNTOLD);
        due.is("3 * 1 = 3 by 3", x.same(0, 1, 2), 1);
        x.tell(0, 2, UNTOLD);
        due.is("2 * 1 = 2 by 2", x.same(0, 1, 2), 1);
        x.tell(0, 1, 0);
        due.is("1 * 1 by 2: less than one", x.same(0, 1, 2), 0);
    }

    /** "BAD (one NAME twice, too)": BAD is ahead of NONE. */
    private void sameOfOneNameTwice() {
        ThreeCards x = new ThreeCards();
        for (int told = 0; told < 2; told++) {
            for (int name = 0; name < 6; name++) {
                for (int what = -1; what <= 3; what++) {
                    due.is("one twice", x.same(name, name, what), BAD);
                }
                due.is("what -1", x.same(name, (name + 1) % 6, -1), BAD);
                due.is("what 3", x.same(name, (name + 1) % 6, 3), BAD);
                due.is("NAME 6", x.same(name, 6, 2), BAD);
                due.is("NAME -1", x.same(-1, name, 2), BAD);
                x.tell(name, 0, 1);
            }
        }
    }

    /** "the mean of all others told that NIGHT (cut; without others not): that sum, of how many". */
    private void leanWithoutOthers() {
        ThreeCards x = new ThreeCards();
        due.is("nothing told", x.lean(5, 0) * 100 + x.lean(5, 1), 0);
        tellRow(x, 5, 20, 20, 20);
        due.is("without others", x.lean(5, 0) * 100 + x.lean(5, 1), 0);
        x.tell(0, 1, 19);
        due.is("one other", x.lean(5, 0) * 100 + x.lean(5, 1), 101);
        due.is("of that one", x.lean(0, 0), -1);
        due.is("of that one", x.lean(0, 1), 1);
        x.tell(0, 23, 19);
        due.is("a NIGHT not told of it", x.lean(5, 1), 1);
        x.tell(5, 1, UNTOLD);
        due.is("not told now", x.lean(5, 1), 0);
    }

    /** 24 NIGHTS, 20 against five of -20: the most and the least. */
    private void leanAtItsEnds() {
        ThreeCards x = new ThreeCards();
        for (int night = 0; night < 24; night++) {
            tellNight(x, night, 20, -20, -20, -20, -20, -20);
        }
        due.is("the most", x.lean(0, 0), 24 * 40);
        due.is("of 24", x.lean(0, 1), 24);
        for (int name = 1; name < 6; name++) {
            // The others: 20 and four of -20, -60 by 5.
            due.is("of NAME " + name, x.lean(name, 0), 24 * -8);
        }
        due.is("NAME -1", x.lean(-1, 0), BAD_LEAN);
        due.is("NAME 6", x.lean(6, 0), BAD_LEAN);
        due.is("what -1", x.lean(0, -1), BAD_LEAN);
        due.is("what 2", x.lean(0, 2), BAD_LEAN);
        ThreeCards y = new ThreeCards();
        tellNight(y, 0, 0, 1);
        due.is("-1 is a LEAN", y.lean(0, 0), -1);
    }

    /** "(cut ...)": towards 0, night by night; above and below, by two to five others. */
    private void leanCut() {
        int[][] others = {{1, 0}, {-1, 0}, {1, 2}, {-1, -2}, {1, 1, 0}, {-1, -1, 0}, {5, 0, 0, 0, -1}, {-5, 0, 0, 0, 1},
            {3, 0, 0, 0}, {-3, 0, 0, 0}, {4, 0, 0, 0}, {-4, 0, 0, 0}};
        int[] means = {0, 0, 1, -1, 0, 0, 0, 0, 0, 0, 1, -1};
        int sum = 0;
        ThreeCards x = new ThreeCards();
        for (int night = 0; night < others.length; night++) {
            x.tell(5, night, 7);
            tellNight(x, night, others[night]);
            sum += 7 - means[night];
            due.is("behind NIGHT " + night, x.lean(5, 0), sum);
            due.is("of so many", x.lean(5, 1), night + 1);
        }
    }

    /** "off the middle of the others (two at least ...) ... none": none, one, two others. */
    private void unlikeNeedsTwo() {
        ThreeCards x = new ThreeCards();
        for (int name = 0; name < 6; name++) {
            due.is("nothing told", x.unlike(name), NONE);
        }
        x.tell(0, 7, 20);
        due.is("no other", x.unlike(0), NONE);
        x.tell(1, 7, -20);
        due.is("one other", x.unlike(0), NONE);
        x.tell(2, 6, -20);
        due.is("another on another NIGHT", x.unlike(0), NONE);
        x.tell(2, 7, -20);
        due.is("two others", x.unlike(0), 7);
        due.is("two others of the second", x.unlike(1), 7);
        due.is("one not told", x.unlike(3), NONE);
        x.tell(0, 7, UNTOLD);
        due.is("not told now", x.unlike(0), NONE);
        due.is("one other now", x.unlike(1), NONE);
        due.is("NAME -1", x.unlike(-1), BAD);
        due.is("NAME 6", x.unlike(6), BAD);
    }

    /** "of an even number of them the lower middle": two, three, four, five others, in any order. */
    private void unlikeLowerMiddle() {
        int[][] others = {{-3, 9}, {9, -3}, {9, -3, 1}, {1, 9, -3}, {8, -9, 9, 2}, {2, -9, 8, 9}, {9, 2, 8, -9},
            {20, 3, -20, 19, -19}, {-20, -19, 3, 19, 20}, {5, 5, -5, -5}, {-20, 20}};
        int[] middles = {-3, -3, 1, 1, 2, 2, 2, 3, 3, -5, -20};
        for (int i = 0; i < others.length; i++) {
            for (int off = -1; off <= 1; off++) {
                // NIGHT 0 is 4 off its middle 0: NIGHT 1 is farther only if its own is more than 4.
                ThreeCards x = new ThreeCards();
                tellNight(x, 0, 0, 0, 0);
                x.tell(5, 0, 4);
                tellNight(x, 1, others[i]);
                int margin = middles[i] + 4 + off;
                x.tell(5, 1, margin);
                due.is(margin + " off " + middles[i], x.unlike(5), off == 1 ? 1 : 0);
            }
        }
    }

    /** "the NIGHT in which a NAME is farthest ..., the first": above and below alike. */
    private void unlikeTheFirst() {
        ThreeCards x = new ThreeCards();
        for (int night = 0; night < 24; night++) {
            tellNight(x, night, 0, 0, 0);
        }
        due.is("nowhere off", x.unlike(1), 0);
        x.tell(1, 23, -1);
        due.is("one off", x.unlike(1), 23);
        x.tell(1, 22, 1);
        due.is("one off, ahead of it", x.unlike(1), 22);
        x.tell(1, 23, -2);
        due.is("two off", x.unlike(1), 23);
        x.tell(1, 0, 2);
        due.is("the first", x.unlike(1), 0);
        x.tell(1, 0, UNTOLD);
        due.is("not told now", x.unlike(1), 23);
    }

    /** 40 off at most: 20 against -20, both ways. */
    private void unlikeAtTheEnds() {
        ThreeCards x = new ThreeCards();
        tellNight(x, 3, 19, -20, -20);
        tellNight(x, 9, -20, 20, 20);
        tellNight(x, 20, 20, -20, -20);
        due.is("39, 40, 40 off", x.unlike(0), 9);
        x.tell(0, 9, -19);
        due.is("39, 39, 40 off", x.unlike(0), 20);
    }

    /** "the first JUDGE (0 to 2) whose told sum is another one than by a RULE ...; none". */
    private void addedFirst() {
        ThreeCards x = Due.laid("r1;j0,0,0,21,1,0,0;j0,0,0,19,1,0,0;j0,0,0,20,1,0,0;j0,0,0,0,1,0,0;");
        int[][] zero = {{20, 18, 20}, {20, 18, 20}, {20, 18, 20}};
        int[][] one = {{18, 20, 18}, {18, 20, 19}, {18, 20, 20}};
        for (int rule = 0; rule <= 2; rule++) {
            for (int wrong = 0; wrong < 8; wrong++) {
                for (int by : new int[] {-1, 1}) {
                    int a = (wrong & 1) * by;
                    int b = (wrong >> 1 & 1) * by;
                    int c = (wrong >> 2 & 1) * by;
                    int first = a != 0 ? 0 : b != 0 ? 1 : c != 0 ? 2 : NONE;
                    int[] z = zero[rule];
                    int[] o = one[rule];
                    due.is("CORNER 0, wrong " + wrong, x.added(rule, 0, z[0] + a, z[1] + b, z[2] + c), first);
                    due.is("CORNER 1, wrong " + wrong, x.added(rule, 1, o[0] + a, o[1] + b, o[2] + c), first);
                }
            }
        }
    }

    /** "POINTS (0 to 999, in halves)"; "(BAD without such)": each of the three at its ends and one beyond. */
    private void addedSums() {
        ThreeCards x = new ThreeCards();
        int[] good = {240, 240, 240};
        for (int i = 0; i < 3; i++) {
            for (int v : new int[] {-1, 0, 999, 1000}) {
                int[] n = good.clone();
                n[i] = v;
                boolean bad = v < 0 || v > 999;
                due.is("sum " + v + " of " + i, x.added(0, 0, n[0], n[1], n[2]), bad ? BAD : i);
                n[(i + 1) % 3] = 0;
                due.is("BAD whatever is ahead", x.added(0, 0, n[0], n[1], n[2]), bad ? BAD : Math.min(i, (i + 1) % 3));
            }
        }
        due.is("none", x.added(0, 0, 240, 240, 240), NONE);
        due.is("RULE -1", x.added(-1, 0, 240, 240, 240), BAD);
        due.is("MILES", x.added(3, 0, 240, 240, 240), BAD);
        due.is("CORNER -1", x.added(0, -1, 240, 240, 240), BAD);
        due.is("CORNER 2", x.added(0, 2, 240, 240, 240), BAD);
    }

    /** What answers BAD or NONE changes nothing. */
    private void refused() {
        Pair pair = Pair.laid(Pair.FEWEST).noted(2);
        ThreeCards x = pair.x;
        due.is("tell BAD", x.tell(6, 0, 0), BAD_TOLD);
        due.is("tell BAD", x.tell(0, 24, 0), BAD_TOLD);
        due.is("tell BAD", x.tell(0, 0, 21), BAD_TOLD);
        due.is("tell BAD", x.tell(0, 0, -22), BAD_TOLD);
        due.is("same NONE", x.same(0, 5, 2), NONE);
        due.is("same BAD", x.same(0, 0, 0), BAD);
        due.is("lean BAD", x.lean(6, 0), BAD_LEAN);
        due.is("unlike NONE", x.unlike(5), NONE);
        due.is("unlike BAD", x.unlike(6), BAD);
        due.is("added NONE", x.added(0, 0, 20, 20, 20), NONE);
        due.is("added BAD", x.added(0, 0, 20, 20, 1000), BAD);
        State.same(due, "told cards refused", pair);
    }
}
