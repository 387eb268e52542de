/** Promises 20 to 24: TOLD cards, SAME, LEAN, UNLIKE, ADDED. */
public final class ToldTest {
    private static final int BAD = -1, NONE = -4, BAD_TOLD = -22, BAD_LEAN = -100001, NO_MARGIN = -21;

    private final Due due = new Due();

    public static void main(String[] args) {
        ToldTest test = new ToldTest();
        test.tell();
        test.same();
        test.byChance();
        test.sameOfAllNights();
        test.lean();
        test.leanIsCut();
        test.unlike();
        test.unlikeOfMany();
        test.added();
        test.due.close();
    }

    /** Tells the MARGINS of a NAME on the NIGHTS from 0 on. */
    private static void tellRow(ThreeCards x, int name, int... margins) {
        for (int night = 0; night < margins.length; night++) {
            x.tell(name, night, margins[night]);
        }
    }

    private void tell() {
        ThreeCards x = new ThreeCards();
        due.is("none at first", x.tell(0, 0, 20), NO_MARGIN);
        due.is("it was 20", x.tell(0, 0, -20), 20);
        due.is("it was -20", x.tell(0, 0, 0), -20);
        due.is("it was 0", x.tell(0, 0, NO_MARGIN), 0);
        due.is("none again", x.tell(0, 0, NO_MARGIN), NO_MARGIN);
        due.is("none TOLD", x.count(4), 0);
        due.is("the last of all", x.tell(5, 23, 7), NO_MARGIN);
        due.is("another NIGHT", x.tell(5, 22, 8), NO_MARGIN);
        due.is("another NAME", x.tell(4, 23, 9), NO_MARGIN);
        due.is("three TOLD", x.count(4), 3);
        due.is("21", x.tell(5, 23, 21), BAD_TOLD);
        due.is("-22", x.tell(5, 23, -22), BAD_TOLD);
        due.is("NAME 6", x.tell(6, 0, 0), BAD_TOLD);
        due.is("NAME -1", x.tell(-1, 0, 0), BAD_TOLD);
        due.is("NIGHT 24", x.tell(0, 24, 0), BAD_TOLD);
        due.is("NIGHT -1", x.tell(0, -1, 0), BAD_TOLD);
        due.is("nothing changes", x.tell(5, 23, 7), 7);
    }

    private void same() {
        ThreeCards x = new ThreeCards();
        due.is("of no NIGHTS", x.same(0, 5, 0), 0);
        due.is("no NIGHTS", x.same(0, 5, 1), 0);
        due.is("by chance of no NIGHTS", x.same(0, 5, 2), NONE);
        tellRow(x, 0, 3, -2, 0, 0, 1, NO_MARGIN, 5, -1);
        tellRow(x, 5, 20, -1, 0, 1, -1, 4, NO_MARGIN, 0);
        due.is("above, below, 0", x.same(0, 5, 0), 3);
        due.is("of six", x.same(0, 5, 1), 6);
        // Above 2 and 2, below 2 and 2, 0: 2 and 2.
        due.is("by chance", x.same(0, 5, 2), 2);
        due.is("the other way about", x.same(5, 0, 0), 3);
        due.is("a third has no NIGHTS", x.same(0, 1, 1), 0);
        due.is("a third", x.same(0, 1, 2), NONE);
        due.is("NAME 6", x.same(6, 0, 0), BAD);
        due.is("NAME 6", x.same(0, 6, 0), BAD);
        due.is("NAME -1", x.same(-1, 0, 0), BAD);
        due.is("NAME -1", x.same(0, -1, 0), BAD);
        due.is("one twice", x.same(5, 5, 0), BAD);
        due.is("what 3", x.same(0, 5, 3), BAD);
        due.is("what -1", x.same(0, 5, -1), BAD);
        due.is("one twice, ahead of NONE", x.same(1, 1, 2), BAD);
    }

    private void byChance() {
        ThreeCards x = new ThreeCards();
        tellRow(x, 1, 1, 1, 1, -1, 0);
        tellRow(x, 2, 1, 1, -1, -1, -1, 9, 9, 9, 9);
        // Above 3 times 2, below 1 times 3, 0 1 times 0: 9 by 5.
        due.is("cut", x.same(1, 2, 2), 1);
        due.is("cut", x.same(2, 1, 2), 1);
        due.is("alike", x.same(1, 2, 0), 3);
        x.tell(2, 4, 0);
        // 3 * 2 + 1 * 2 + 1 * 1.
        due.is("with a 0", x.same(1, 2, 2), 1);
        x.tell(2, 2, 2);
        // 3 * 3 + 1 * 1 + 1 * 1.
        due.is("all alike", x.same(1, 2, 2), 2);
        ThreeCards y = new ThreeCards();
        tellRow(y, 0, 1, 1);
        tellRow(y, 3, -1, 0);
        due.is("never alike", y.same(0, 3, 2), 0);
    }

    private void sameOfAllNights() {
        ThreeCards x = new ThreeCards();
        for (int night = 0; night < 24; night++) {
            x.tell(3, night, night % 2 == 0 ? 20 : -20);
            x.tell(4, night, 1);
        }
        due.is("half of them", x.same(3, 4, 0), 12);
        due.is("24", x.same(3, 4, 1), 24);
        due.is("12 times 24 by 24", x.same(3, 4, 2), 12);
    }

    private void lean() {
        ThreeCards x = new ThreeCards();
        due.is("nothing told", x.lean(0, 0), 0);
        due.is("of none", x.lean(0, 1), 0);
        tellRow(x, 0, 10, 4, 6, NO_MARGIN);
        tellRow(x, 1, 4, NO_MARGIN, -3, 8);
        tellRow(x, 2, 8, NO_MARGIN, NO_MARGIN, 8);
        due.is("less 6, without others, less -3", x.lean(0, 0), 4 + 9);
        due.is("of two", x.lean(0, 1), 2);
        due.is("of the second", x.lean(1, 0), -5 - 9 + 0);
        due.is("of three", x.lean(1, 1), 3);
        due.is("of the third", x.lean(2, 0), 1 + 0);
        due.is("of two", x.lean(2, 1), 2);
        due.is("of one not told", x.lean(5, 1), 0);
        due.is("NAME 6", x.lean(6, 0), BAD_LEAN);
        due.is("NAME -1", x.lean(-1, 0), BAD_LEAN);
        due.is("what 2", x.lean(0, 2), BAD_LEAN);
        due.is("what -1", x.lean(0, -1), BAD_LEAN);
        x.tell(0, 23, 20);
        x.tell(5, 23, -20);
        due.is("the last NIGHT", x.lean(5, 0), -40);
        due.is("the last NIGHT", x.lean(0, 0), 13 + 40);
    }

    /** The mean of the others is cut towards 0, not the difference. */
    private void leanIsCut() {
        ThreeCards x = new ThreeCards();
        x.tell(0, 0, -20);
        x.tell(1, 0, 0);
        x.tell(2, 0, -1);
        due.is("-20 less a mean of -0.5", x.lean(0, 0), -20);
        x.tell(2, 0, -5);
        due.is("-20 less a mean of -2.5", x.lean(0, 0), -18);
        x.tell(0, 0, 20);
        x.tell(2, 0, 5);
        due.is("20 less a mean of 2.5", x.lean(0, 0), 18);
        x.tell(3, 0, 0);
        x.tell(4, 0, 0);
        x.tell(5, 0, 0);
        due.is("20 less a mean of five", x.lean(0, 0), 19);
    }

    private void unlike() {
        ThreeCards x = new ThreeCards();
        due.is("nothing told", x.unlike(0), NONE);
        tellRow(x, 0, 20, 1, 2, 3);
        tellRow(x, 1, -20, 1, 2, 6);
        due.is("one other", x.unlike(0), NONE);
        tellRow(x, 2, NO_MARGIN, 1, 5, 7);
        // NIGHT 1: 1 of 1, 1; NIGHT 2: 2 of 2, 5; NIGHT 3: 3 of 6, 7.
        due.is("off the lower middle", x.unlike(0), 3);
        due.is("of the third", x.unlike(2), 3);
        x.tell(2, 2, -2);
        // 2 of -2, 2.
        due.is("farther on NIGHT 2", x.unlike(0), 2);
        x.tell(2, 2, -1);
        due.is("as far: the first", x.unlike(0), 2);
        x.tell(2, 2, 0);
        due.is("now the other", x.unlike(0), 3);
        due.is("of one not told", x.unlike(5), NONE);
        due.is("NAME 6", x.unlike(6), BAD);
        due.is("NAME -1", x.unlike(-1), BAD);
        ThreeCards y = new ThreeCards();
        for (int name = 0; name < 3; name++) {
            y.tell(name, 4, 7);
            y.tell(name, 9, -7);
        }
        due.is("nowhere off: the first", y.unlike(1), 4);
    }

    private void unlikeOfMany() {
        ThreeCards x = new ThreeCards();
        int[][] others = {{9, -9, 1}, {3, -20, 5, 20}, {8, 2, 0, 1, 20}};
        for (int night = 0; night < 3; night++) {
            x.tell(3, night, 10);
            int name = 0;
            for (int margin : others[night]) {
                x.tell(name, night, margin);
                name += name == 2 ? 2 : 1;
            }
        }
        // The middles are 1, 3, 2.
        due.is("9, 7, 8 off", x.unlike(3), 0);
        x.tell(3, 0, 8);
        due.is("7, 7, 8 off", x.unlike(3), 2);
        x.tell(3, 2, 2);
        x.tell(3, 0, 3);
        due.is("2, 7, 0 off", x.unlike(3), 1);
        x.tell(3, 1, 4);
        x.tell(3, 2, -1);
        due.is("2, 1, 3 off", x.unlike(3), 2);
        x.tell(3, 23, 20);
        x.tell(0, 23, -20);
        x.tell(1, 23, -20);
        due.is("the last NIGHT", x.unlike(3), 23);
    }

    private void added() {
        ThreeCards x = Due.laid("r2;k0,1;d1,0;j0,0,0,23,1,0,3;j0,0,0,17,1,0,2;j0,0,0,20,1,0,0;j0,0,0,0,1,0,0;");
        // TEN: 4, 2; 0, -2; 4, 2. HALVES: 3, 1; 0, -2; 3, 1. EVENS: 2, 0; 0, -2; 2, 0.
        due.is("TEN 0", x.added(0, 0, 38, 36, 38), NONE);
        due.is("TEN 1", x.added(0, 1, 34, 40, 34), NONE);
        due.is("HALVES 0", x.added(1, 0, 38, 36, 38), NONE);
        due.is("HALVES 1", x.added(1, 1, 36, 40, 36), NONE);
        due.is("EVENS 1", x.added(2, 1, 38, 40, 38), NONE);
        due.is("the first", x.added(0, 0, 37, 35, 37), 0);
        due.is("the second", x.added(0, 0, 38, 37, 37), 1);
        due.is("the third", x.added(0, 0, 38, 36, 39), 2);
        due.is("0 may be told", x.added(0, 0, 0, 0, 0), 0);
        due.is("999 may be told", x.added(0, 0, 38, 999, 999), 1);
        due.is("999 may be told", x.added(0, 0, 38, 36, 999), 2);
        due.is("-1", x.added(0, 0, -1, 36, 38), BAD);
        due.is("-1", x.added(0, 0, 38, -1, 38), BAD);
        due.is("-1", x.added(0, 0, 38, 36, -1), BAD);
        due.is("1000", x.added(0, 0, 1000, 36, 38), BAD);
        due.is("1000", x.added(0, 0, 38, 1000, 38), BAD);
        due.is("1000", x.added(0, 0, 38, 36, 1000), BAD);
        due.is("MILES", x.added(3, 0, 38, 36, 38), BAD);
        due.is("RULE -1", x.added(-1, 0, 38, 36, 38), BAD);
        due.is("CORNER 2", x.added(0, 2, 38, 36, 38), BAD);
        due.is("CORNER -1", x.added(0, -1, 38, 36, 38), BAD);
    }
}
