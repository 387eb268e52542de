/** Promises 1 to 6 and 30: a new object, THE TEXT, FAULT, LAID, BLOWS, counts. */
public final class TextTest {
    private static final int BAD = -1, NO = -2, FULL = -3, NONE = -4;
    private static final String JUDGE = "j0,1,0,20,1,0,0;";
    private static final String THREE = JUDGE + JUDGE + JUDGE;

    private final Due due = new Due();

    public static void main(String[] args) {
        TextTest test = new TextTest();
        test.newObject();
        test.write();
        test.writeFull();
        test.wipe();
        test.faultOfForm();
        test.faultOfBounds();
        test.faultOfNumbers();
        test.lay();
        test.layKeepsAndEnds();
        test.blow();
        test.count();
        test.due.close();
    }

    private void newObject() {
        ThreeCards x = new ThreeCards();
        int[] counts = {12, 3, 0, 0, 0, 0};
        for (int what = 0; what < counts.length; what++) {
            due.is("new: count(" + what + ")", x.count(what), counts[what]);
        }
        due.is("new: fault()", x.fault(), NONE);
        due.is("new: lay()", x.lay(), NO);
        due.is("new: back()", x.back(), NO);
        due.is("new: blow(0, 0)", x.blow(0, 0), BAD);
        for (int judge = 0; judge < 3; judge++) {
            due.is("new: lead", x.lead(judge, 11), 0);
            due.is("new: close", x.close(judge, 0), 1);
            due.is("new: sum", x.sum(judge, 5, 1), 0);
            due.is("new: delay", x.delay(judge, 0), 0);
        }
        due.is("new: tell", x.tell(5, 23, -21), -21);
        for (int i = 0; i < 4; i++) {
            due.is("new: tenths", x.tenths(i / 2, i % 2, 5), 5);
        }
    }

    private void write() {
        ThreeCards x = new ThreeCards();
        due.is("write(0)", x.write(0, 'r'), BAD);
        due.is("write(9)", x.write(9, 'r'), BAD);
        due.is("write(-1)", x.write(-1, 'r'), BAD);
        due.is("nothing came", x.count(3), 0);
        due.is("the lowest byte alone", x.write(1, 0x7777777777777700L | 'r'), 1);
        due.is("two bytes", x.write(2, 0xFFFFFFFF00000000L | '2' << 8 | ';'), 3);
        due.is("r2; is so", x.fault(), NONE);
        due.is("eight bytes", x.write(8, 0x6A302C312C302C32L), 11);
        due.is("seven bytes behind", x.write(7, 0x302C312C302C30L), 18);
        due.is("no ; yet", x.fault(), 3);
        due.is("the ;", x.write(1, ';'), 19);
        due.is("now so", x.fault(), NONE);
        due.is("a byte above 127", x.write(1, 0xFF), 20);
        due.is("is none of an ITEM", x.fault(), 19);
    }

    private void writeFull() {
        ThreeCards x = new ThreeCards();
        for (int i = 1; i <= 62; i++) {
            due.is("write 8", x.write(8, 0), 8 * i);
        }
        due.is("504 are too many", x.write(8, 0), FULL);
        due.is("501 are too many", x.write(5, 0), FULL);
        due.is("nothing came", x.count(3), 496);
        due.is("500 are not", x.write(4, 0), 500);
        due.is("501 are too many", x.write(1, 0), FULL);
        due.is("BAD ahead of FULL", x.write(9, 0), BAD);
        due.is("BAD ahead of FULL", x.write(0, 0), BAD);
        due.is("wipe", x.wipe(), 500);
        due.is("room again", x.write(1, 0), 1);
    }

    private void wipe() {
        ThreeCards x = Due.laid("r2;" + THREE);
        due.is("wipe", x.wipe(), 51);
        due.is("empty", x.wipe(), 0);
        due.is("no bytes", x.count(3), 0);
        due.is("no FAULT", x.fault(), NONE);
        due.is("LAID stays", x.count(0), 2);
        Due.put(x, "r7;");
        due.is("behind nothing", x.count(3), 3);
        due.is("without FAULT", x.fault(), NONE);
    }

    private void fault(String letters, int place) {
        ThreeCards x = new ThreeCards();
        Due.put(x, letters);
        due.is("fault() of " + letters, x.fault(), place);
        due.is("the same again", x.fault(), place);
    }

    private void faultOfForm() {
        fault("r12;", NONE);
        fault("r1;r2;r3;", NONE);
        fault("r012;k00,001;", NONE);
        fault("r0012;", 0);
        fault("r", 0);
        fault("r1", 0);
        fault("r;", 0);
        fault("r1;;", 3);
        fault("r1;x1;", 3);
        fault("R1;", 0);
        fault(" r1;", 0);
        fault("r1; ", 3);
        fault("r-1;", 0);
        fault("r1,;", 0);
        fault("r1,1;", 0);
        fault("k1;", 0);
        fault("k1,1,1;", 0);
        fault("k1;1;", 0);
        fault("k,1;", 0);
        fault("k1,;", 0);
        fault("k1.1;", 0);
        fault("r1;k0,0;b0,0,0,1,0,0;", 8);
        fault("b0,0,0,1;", 0);
        fault("j0,1,0,20,1,0;", 0);
        fault("j0,1,0,20,1,0,0,0;", 0);
        fault("r1;r13;r14;", 3);
        fault("r1;r2;r", 6);
        fault("r/;", 0);
        fault("r:;", 0);
    }

    /** Each number of a good ITEM is put to its lowest and highest, and one off these. */
    private void faultOfBounds() {
        bounds("r", new int[] {1}, new int[] {12});
        bounds("b", new int[] {0, 0, 0, 1, 0}, new int[] {11, 179, 1, 9, 11});
        bounds("f", new int[] {0, 0, 0}, new int[] {11, 1, 9});
        bounds("k", new int[] {0, 0}, new int[] {11, 1});
        bounds("d", new int[] {0, 0}, new int[] {11, 1});
        bounds("h", new int[] {0, 0}, new int[] {1, 9});
        bounds("j", new int[] {0, 0, 0, 0, 1, 0, 0}, new int[] {11, 9, 9, 40, 9, 9, 99});
    }

    private void bounds(String letter, int[] low, int[] high) {
        for (int i = 0; i < low.length; i++) {
            fault("r3;" + item(letter, low, i, low[i]), NONE);
            fault("r3;" + item(letter, high, i, high[i]), NONE);
            fault("r3;" + item(letter, low, i, high[i] + 1), 3);
            if (low[i] > 0) {
                fault("r3;" + item(letter, low, i, low[i] - 1), 3);
            }
        }
    }

    private static String item(String letter, int[] numbers, int at, int v) {
        StringBuilder item = new StringBuilder(letter);
        for (int i = 0; i < numbers.length; i++) {
            item.append(i == 0 ? "" : ",").append(i == at ? v : numbers[i]);
        }
        return item.append(';').toString();
    }

    private void faultOfNumbers() {
        fault("k0,0;k0,1;k0,0;", NONE);
        fault("k0,0;k0,1;k0,0;k1,0;k0,1;", 20);
        fault("k0,0;k0,0;k0,0;k0,0;", 15);
        fault("r1;k5,0;k5,1;k5,1;k5,1;", 18);
        fault("d2,1;d2,1;d2,0;", NONE);
        fault("d2,1;d2,1;d2,0;k2,0;k2,0;k2,0;d3,0;", NONE);
        fault("d2,1;d2,1;d2,0;d2,0;", 15);
        fault("r1;d9,1;d9,1;d9,0;d9,0;", 18);
        fault(JUDGE.repeat(8), NONE);
        fault(JUDGE.repeat(9), 128);
        fault("b0,0,0,1,0;".repeat(40), NONE);
        fault("b0,0,0,1,0;".repeat(41), 440);
        fault("r1;" + "b9,0,0,1,0;".repeat(41), 443);
        fault("f0,0,1;".repeat(60), NONE);
        fault("h1,9;".repeat(60), NONE);
    }

    private void lay() {
        ThreeCards x = new ThreeCards();
        Due.put(x, JUDGE + JUDGE);
        due.is("two JUDGES", x.lay(), NO);
        Due.put(x, "b1,2,1,3,4;");
        due.is("two JUDGES and a BLOW", x.lay(), NO);
        due.is("nothing changes", x.count(2), 0);
        Due.put(x, JUDGE + "r5;r4;");
        due.is("three JUDGES", x.lay(), 3);
        due.is("the last r counts", x.count(0), 4);
        due.is("THE TEXT stays", x.count(3), 2 * 16 + 11 + 16 + 6);
        Due.put(x, "r");
        due.is("a FAULT", x.lay(), NO);
        due.is("LAID stays", x.count(2), 1);
        due.is("LAID stays", x.count(0), 4);
        x.wipe();
        due.is("an empty TEXT", x.lay(), NO);
        Due.put(x, JUDGE.repeat(8));
        due.is("eight JUDGES", x.lay(), 8);
        due.is("12 ROUNDS without", x.count(0), 12);
        due.is("no BLOWS left", x.count(2), 0);
    }

    private void layKeepsAndEnds() {
        ThreeCards x = Due.laid("f0,0,9;k0,1;d0,1;h0,9;b0,0,0,1,6;j0,1,9,20,1,9,0;" + JUDGE + JUDGE);
        due.is("SUM", x.sum(0, 0, 0), 162);
        due.is("CARD", x.card(0, 0), 26 + 2);
        x.delay(1, 7);
        x.tell(2, 3, 4);
        x.tenths(1, 1, 9);
        x.keep();
        x.wipe();
        Due.put(x, JUDGE);
        due.is("one JUDGE", x.lay(), NO);
        due.is("KEPT stays", x.count(5), 1);
        due.is("DELAY stays", x.delay(1, 7), 7);
        Due.put(x, "j0,1,9,20,1,9,0;" + JUDGE + JUDGE);
        due.is("four JUDGES", x.lay(), 4);
        due.is("nothing KEPT", x.count(5), 0);
        due.is("back()", x.back(), NO);
        due.is("DELAY is 0", x.delay(1, 0), 0);
        due.is("TOLD stays", x.tell(2, 3, 4), 4);
        due.is("TENTHS stay", x.tenths(1, 1, 9), 9);
        due.is("nothing forward, no noise", x.sum(1, 0, 0), 0);
        due.is("no knockdowns, no points taken", x.card(0, 0), 24);
        x.wipe();
        Due.put(x, "b0,0,0,1,6;b0,0,0,1,6;j0,1,9,20,1,9,0;" + JUDGE + JUDGE);
        due.is("other BLOWS", x.lay(), 3);
        due.is("SEEN by none", x.blow(0, 5), 0);
        due.is("no noise without", x.sum(0, 0, 0), 0);
        x.wipe();
        Due.put(x, "b0,0,0,1,0;" + JUDGE + "j6,1,0,20,1,0,0;" + JUDGE);
        due.is("other SEATS", x.lay(), 3);
        due.is("SEEN by two", x.blow(0, 5), 5);
        due.is("one BLOW", x.blow(1, 5), BAD);
    }

    private void blow() {
        ThreeCards x = Due.laid("r2;b1,179,1,9,11;b0,3,0,4,5;b7,0,0,1,2;j7,1,0,20,1,0,0;j8,1,0,20,1,0,0;"
            + "j3,1,0,20,1,0,0;j1,1,0,20,1,0,0;");
        // The SEATS 7, 8, 3, 1 are 4, 3, 4, 2 off SIDE 11, 2, 3, 2, 4 off SIDE 5, and 5, 6, 1, 1 off SIDE 2.
        int[][] parts = {{1, 179, 1, 9, 11, 15}, {0, 3, 0, 4, 5, 15}, {7, 0, 0, 1, 2, 12}};
        for (int k = 0; k < 3; k++) {
            for (int what = 0; what < 6; what++) {
                due.is("blow(" + k + ", " + what + ")", x.blow(k, what), parts[k][what]);
            }
        }
        due.is("blow(3, 0)", x.blow(3, 0), BAD);
        due.is("blow(-1, 0)", x.blow(-1, 0), BAD);
        due.is("blow(0, 6)", x.blow(0, 6), BAD);
        due.is("blow(0, -1)", x.blow(0, -1), BAD);
        blowsSeenFromAllSeats();
    }

    private void blowsSeenFromAllSeats() {
        for (int side = 0; side < 12; side++) {
            for (int seat = 0; seat < 12; seat++) {
                ThreeCards x = Due.laid("b0,0,0,1," + side + ";" + JUDGE + "j" + seat + ",1,0,20,1,0,0;" + JUDGE);
                int off = Math.floorMod(seat - side, 12);
                due.is("SIDE " + side + " from SEAT " + seat, x.blow(0, 5) >> 1 & 1, off <= 4 || off >= 8 ? 1 : 0);
            }
        }
    }

    private void count() {
        ThreeCards x = Due.laid("r3;b11,0,0,1,0;b0,0,0,1,0;" + THREE + JUDGE);
        x.tell(0, 0, 0);
        x.tell(0, 1, -20);
        x.tell(0, 1, 5);
        x.tell(3, 3, 3);
        x.tell(3, 3, -21);
        x.keep();
        int[] counts = {3, 4, 2, 3 + 12 + 11 + 64, 2, 1};
        for (int what = 0; what < counts.length; what++) {
            due.is("count(" + what + ")", x.count(what), counts[what]);
        }
        due.is("count(6)", x.count(6), BAD);
        due.is("count(-1)", x.count(-1), BAD);
    }
}
