/**
 * The sentences of Terms 1 about THE TEXT, and promises 1 to 6 and 30, at their edges and on both sides of these. Above
 * each test stands what the document says.
 */
public final class TextEdgeTest {
    private static final int BAD = -1, NO = -2, FULL = -3, NONE = -4;
    private static final String JUDGE = Pair.JUDGE;
    private static final String THREE = Pair.THREE;
    /** 500 bytes without FAULT. */
    private static final String FULL_TEXT = THREE + "r04;".repeat(113);
    private static final String[] GOOD = {
        "r1;", "b0,0,0,1,0;", "f0,0,0;", "k0,0;", "d0,0;", "h0,0;", "j0,0,0,0,1,0,0;", "r12;", "b11,179,1,9,11;",
        "f11,1,9;", "k11,1;", "d11,1;", "h1,9;", "j11,9,9,40,9,9,99;"
    };

    private final Due due = new Due();

    public static void main(String[] args) {
        TextEdgeTest test = new TextEdgeTest();
        test.newObject();
        test.emptyText();
        test.fullText();
        test.oneMoreThanFull();
        test.lastItemCutByTheEnd();
        test.lowestBytes();
        test.highestFirst();
        test.bytesAbove127();
        test.writeTakesOneToEight();
        test.wipe();
        test.figures();
        test.partedAndEnded();
        test.faultOfEachCut();
        test.faultOfEachByte();
        test.firstFault();
        test.numbersOfItems();
        test.roundsOfText();
        test.mostBlows();
        test.mostJudges();
        test.mostOfARound('k');
        test.mostOfARound('d');
        test.anyNumberOfOthers();
        test.layOfTwoAndThree();
        test.layWithFault();
        test.layEndsAndLeaves();
        test.layTakesTheTextOfThen();
        test.layHasNothingOfTheLast();
        test.blowParts();
        test.blowPlaces();
        test.blowSeenBy();
        test.countsAtTheirEnds();
        test.due.close();
    }

    private void fault(String letters, int place) {
        ThreeCards x = new ThreeCards();
        Due.put(x, letters);
        due.is("fault() of " + letters, x.fault(), place);
    }

    /** Adds length bytes of ITEMS without FAULT. */
    private static void fill(ThreeCards x, int length) {
        StringBuilder letters = new StringBuilder();
        while (length - letters.length() > 5) {
            letters.append("r4;");
        }
        letters.append(new String[] {"", "", "", "r4;", "r04;", "r004;"}[length - letters.length()]);
        Due.put(x, letters.toString());
    }

    /** "As told; THE TEXT is empty"; "12 without"; "at first three of j0,1,0,20,1,0,0; and no BLOWS". */
    private void newObject() {
        ThreeCards x = new ThreeCards();
        int[] counts = {12, 3, 0, 0, 0, 0};
        for (int what = 0; what < 6; what++) {
            due.is("new: count(" + what + ")", x.count(what), counts[what]);
        }
        due.is("the last JUDGE and ROUND", x.lead(2, 11), 0);
        due.is("no fourth JUDGE", x.lead(3, 11), -100001);
        due.is("no 13th ROUND", x.lead(2, 12), -100001);
        due.is("no BLOW", x.blow(0, 0), BAD);
        due.is("nothing to wipe", x.wipe(), 0);
        Plain laid = new Plain();
        laid.write(8, 0x6A302C312C302C32L);
        laid.write(8, 0x302C312C302C303BL);
        laid.write(8, 0x6A302C312C302C32L);
        laid.write(8, 0x302C312C302C303BL);
        laid.write(8, 0x6A302C312C302C32L);
        laid.write(8, 0x302C312C302C303BL);
        due.is("three of j0,1,0,20,1,0,0;", laid.lay(), 3);
        laid.wipe();
        State.same(due, "new", new Pair(new ThreeCards(), laid));
    }

    /** "THE TEXT is empty: how long it was"; an empty TEXT has no FAULT and no JUDGES. */
    private void emptyText() {
        Pair pair = new Pair();
        due.is("no FAULT", pair.x.fault(), NONE);
        due.is("no JUDGES", pair.x.lay(), NO);
        due.is("no bytes", pair.x.count(3), 0);
        due.is("was empty", pair.x.wipe(), 0);
        State.same(due, "an empty TEXT", pair);
        Pair laid = Pair.laid(Pair.MOST_BLOWS).noted(1);
        due.is("was full", laid.x.wipe(), 500);
        laid.y.wipe();
        due.is("no FAULT", laid.x.fault(), NONE);
        due.is("no JUDGES now", laid.x.lay(), NO);
        State.same(due, "an empty TEXT behind a full one", laid);
    }

    /** "A TEXT is bytes (500 at most)": 500 bytes are read to the end. */
    private void fullText() {
        ThreeCards x = new ThreeCards();
        due.is("500 bytes", Due.put(x, FULL_TEXT), 500);
        due.is("no FAULT", x.fault(), NONE);
        due.is("laid", x.lay(), 3);
        due.is("the last byte counts", x.count(0), 4);
        due.is("FULL", x.write(1, 'r'), FULL);
        due.is("no FAULT by what is FULL", x.fault(), NONE);
        due.is("laid again", x.lay(), 3);
        due.is("500 bytes", x.count(3), 500);
        due.is("how long it was", x.wipe(), 500);
        due.is("room for eight", Due.put(x, "r11;r10;"), 8);
        due.is("no FAULT", x.fault(), NONE);
    }

    /** "FULL ...; nothing changes then": none of the bytes comes, if not all fit. */
    private void oneMoreThanFull() {
        for (int n = 1; n <= 8; n++) {
            ThreeCards x = new ThreeCards();
            fill(x, 500 - n);
            due.is(n + " to 500", x.write(n, 0), 500);
            for (int more = 1; more <= 8; more++) {
                due.is(more + " beyond 500", x.write(more, 0), FULL);
            }
            due.is("still 500", x.count(3), 500);
            ThreeCards y = new ThreeCards();
            fill(y, 501 - n);
            due.is(n + " to 501", y.write(n, 'x'), FULL);
            due.is("nothing came", y.count(3), 501 - n);
            due.is("no FAULT came", y.fault(), NONE);
            if (n > 1) {
                due.is("one fewer to 500", y.write(n - 1, 0), 500);
            }
        }
    }

    /** A last ITEM whose ; would be byte 501 is one without its ;. */
    private void lastItemCutByTheEnd() {
        ThreeCards x = new ThreeCards();
        fill(x, 498);
        due.is("two bytes", x.write(2, 'r' << 8 | '1'), 500);
        due.is("no ; behind the last one", x.fault(), 498);
        due.is("no room for it", x.write(1, ';'), FULL);
        due.is("still none", x.fault(), 498);
        ThreeCards y = new ThreeCards();
        fill(y, 497);
        due.is("two bytes", y.write(2, 'r' << 8 | '1'), 499);
        due.is("the last byte", y.write(1, ';'), 500);
        due.is("so it is", y.fault(), NONE);
        ThreeCards z = new ThreeCards();
        fill(z, 499);
        due.is("a letter", z.write(1, 'r'), 500);
        due.is("and no more", z.fault(), 499);
    }

    /** "The lowest n bytes (1 to 8) of v ... come behind THE TEXT": those above them do not. */
    private void lowestBytes() {
        String[] tails = {"", ";", "3;", "r3;", "r03;", "r003;", "r1;r3;", "r1;r03;", "r01;r03;"};
        String[] heads = {"", THREE + "r3", THREE + "r", THREE, THREE, THREE, THREE, THREE, THREE};
        for (int n = 1; n <= 8; n++) {
            for (long above : new long[] {0, -1, 0x7878787878787878L, 0x3B3B3B3B3B3B3B3BL}) {
                ThreeCards x = new ThreeCards();
                Due.put(x, heads[n]);
                long v = above;
                for (int i = 0; i < n; i++) {
                    v = v << 8 | tails[n].charAt(i);
                }
                due.is("the lowest " + n, x.write(n, v), heads[n].length() + n);
                due.is("no other byte came", x.fault(), NONE);
                due.is("laid", x.lay(), 3);
                due.is("as they were", x.count(0), 3);
            }
        }
    }

    /** "the highest of these first". */
    private void highestFirst() {
        ThreeCards x = new ThreeCards();
        due.is("r12;", x.write(4, 0x7231323BL), 4);
        due.is("so", x.fault(), NONE);
        x.wipe();
        due.is(";21r", x.write(4, 0x3B323172L), 4);
        due.is("not so", x.fault(), 0);
        x.wipe();
        due.is("r12;r11;", x.write(8, 0x7231323B7231313BL), 8);
        Due.put(x, THREE);
        due.is("laid", x.lay(), 3);
        due.is("the lower ones behind", x.count(0), 11);
    }

    /** Bytes are 0 to 255; those above 127 are not those below, and none of an ITEM. */
    private void bytesAbove127() {
        for (int b : new int[] {0, 1, 127, 128, 129, 255, 'r' | 128, '1' | 128, ';' | 128}) {
            ThreeCards x = new ThreeCards();
            due.is("byte " + b, x.write(1, b), 1);
            due.is("no letter " + b, x.fault(), 0);
            due.is("at its place " + b, place(b, "", "1;"), 0);
            due.is("no figure " + b, place(b, "r2;r", ";"), 3);
            due.is("no end " + b, place(b, "r2;r1", ""), 3);
        }
        due.is("a good one", place('1', "r2;r", ";"), NONE);
    }

    private static int place(int b, String before, String behind) {
        ThreeCards x = new ThreeCards();
        Due.put(x, before);
        x.write(1, b);
        Due.put(x, behind);
        return x.fault();
    }

    /** "(1 to 8)": 0 and 9 are BAD, also where the TEXT is full: BAD is ahead of FULL. */
    private void writeTakesOneToEight() {
        Pair pair = Pair.laid(Pair.FEWEST);
        for (int n : new int[] {0, 9, -1, -8, 16, Integer.MIN_VALUE, Integer.MAX_VALUE}) {
            due.is("write(" + n + ")", pair.x.write(n, 0x7231323B7231313BL), BAD);
        }
        State.same(due, "write BAD", pair);
        ThreeCards full = new ThreeCards();
        fill(full, 500);
        due.is("0 to a full TEXT", full.write(0, 0), BAD);
        due.is("9 to a full TEXT", full.write(9, 0), BAD);
        due.is("1 to a full TEXT", full.write(1, 0), FULL);
        due.is("8 to a full TEXT", full.write(8, 0), FULL);
        due.is("as long as it was", full.count(3), 500);
        due.is("and as it was", full.fault(), NONE);
    }

    /** "THE TEXT is empty: how long it was": 0, 1, 499, 500; what stood there is gone. */
    private void wipe() {
        for (int length : new int[] {3, 499, 500}) {
            ThreeCards x = new ThreeCards();
            fill(x, length);
            due.is("was " + length, x.wipe(), length);
            due.is("was empty", x.wipe(), 0);
            due.is("no byte", x.count(3), 0);
            due.is("one byte", x.write(1, 'r'), 1);
            due.is("nothing stands behind it", x.fault(), 0);
            due.is("was one", x.wipe(), 1);
        }
    }

    /** "numbers (one to three figures)": none and four are not so. */
    private void figures() {
        fault("r;", 0);
        fault("r4;", NONE);
        fault("r04;", NONE);
        fault("r004;", NONE);
        fault("r0004;", 0);
        fault("r0000;", 0);
        fault("r000;", 0);
        fault("k,0;", 0);
        fault("k000,001;", NONE);
        fault("k0000,1;", 0);
        fault("k0,0001;", 0);
        fault("j00,01,00,20,01,00,00;", NONE);
        fault("j000,001,000,020,001,000,000;", NONE);
        fault("j0,1,0,20,1,0,0000;", 0);
        fault("j0,1,0,20,1,0,099;", NONE);
        fault("b0,179,0,1,0;", NONE);
        fault("b0,0179,0,1,0;", 0);
        ThreeCards x = Due.laid("r002;b001,007,001,009,011;" + THREE);
        due.is("zeros in front", x.count(0), 2);
        due.is("zeros in front", x.blow(0, 4), 11);
    }

    /** "parted by , and ; (behind the last one, too)". */
    private void partedAndEnded() {
        fault("k0;0;", 0);
        fault("k0 0;", 0);
        fault("k0,,0;", 0);
        fault("k0,0", 0);
        fault("k0,0,", 0);
        fault("k0,0,;", 0);
        fault("k0,0;;", 5);
        fault("k0,0; ", 5);
        fault("k0,0;\n", 5);
        fault(";", 0);
        fault(",", 0);
        fault("k0,0;k0,1", 5);
        fault("k0,0;k0,1;", NONE);
        fault("r1;r1;,", 6);
        fault("K0,0;", 0);
    }

    /** "FAULT: the place (from 0 on) of the first byte of the first ITEM that is not so": a cut ITEM's, at each cut. */
    private void faultOfEachCut() {
        StringBuilder all = new StringBuilder();
        for (String item : GOOD) {
            int start = all.length();
            all.append(item);
            for (int length = start + 1; length < all.length(); length++) {
                fault(all.substring(0, length), start);
            }
            fault(all.toString(), NONE);
        }
    }

    /** Each byte of each ITEM put to each other byte, against the document's second writing. */
    private void faultOfEachByte() {
        for (String item : GOOD) {
            for (int at = 0; at < item.length(); at++) {
                for (int b = 0; b < 256; b++) {
                    Pair pair = new Pair();
                    pair.put("r9;" + item.substring(0, at) + (char) b + item.substring(at + 1) + "k1,1;");
                    due.is("fault() of " + item + " with " + b + " at " + at, pair.x.fault(), pair.y.fault());
                }
            }
        }
    }

    /** "the first ITEM that is not so": of two of them the first, whatever is behind it. */
    private void firstFault() {
        fault("r13;r0;", 0);
        fault("r12;r0;r13;", 4);
        fault("r1;x;r1;", 3);
        fault("x", 0);
        fault("r1;" + JUDGE.repeat(8) + "r0;" + JUDGE, 131);
        fault("r1;" + JUDGE.repeat(9) + "r0;", 131);
        fault("k3,0;".repeat(3) + "d3,0;".repeat(4) + "k3,0;", 30);
        fault("k3,0;".repeat(4) + "d3,0;".repeat(4), 15);
    }

    /** "1 to 12", "0 to 11", "0 to 179", ...: each number of each ITEM at its ends and one beyond. */
    private void numbersOfItems() {
        String[] letters = {"r", "b", "f", "k", "d", "h", "j"};
        int[][] low = {{1}, {0, 0, 0, 1, 0}, {0, 0, 0}, {0, 0}, {0, 0}, {0, 0}, {0, 0, 0, 0, 1, 0, 0}};
        int[][] high = {{12}, {11, 179, 1, 9, 11}, {11, 1, 9}, {11, 1}, {11, 1}, {1, 9}, {11, 9, 9, 40, 9, 9, 99}};
        for (int kind = 0; kind < letters.length; kind++) {
            for (int i = 0; i < low[kind].length; i++) {
                for (int[] others : new int[][] {low[kind], high[kind]}) {
                    String letter = letters[kind];
                    fault("r5;" + item(letter, others, i, low[kind][i]), NONE);
                    fault("r5;" + item(letter, others, i, high[kind][i]), NONE);
                    fault("r5;" + item(letter, others, i, high[kind][i] + 1), 3);
                    fault("r5;" + item(letter, others, i, 999), 3);
                    fault("r5;" + item(letter, others, i, low[kind][i] - 1), 3);
                }
            }
        }
    }

    private static String item(String letter, int[] numbers, int at, int v) {
        StringBuilder item = new StringBuilder(letter);
        for (int i = 0; i < numbers.length; i++) {
            item.append(i == 0 ? "" : ",").append(i == at ? v : numbers[i]);
        }
        return item.append(';').toString();
    }

    /** "N ROUNDS (1 to 12; 12 without; of several the last one counts)". */
    private void roundsOfText() {
        due.is("without", Due.laid(THREE).count(0), 12);
        due.is("1", Due.laid("r1;" + THREE).count(0), 1);
        due.is("12", Due.laid("r12;" + THREE).count(0), 12);
        due.is("the last one, fewer", Due.laid("r12;" + THREE + "r1;").count(0), 1);
        due.is("the last one, more", Due.laid("r1;r7;" + THREE + "r12;").count(0), 12);
        ThreeCards x = Due.laid("r2;" + THREE);
        x.wipe();
        Due.put(x, THREE);
        x.lay();
        due.is("12 without, behind a fight of 2", x.count(0), 12);
    }

    /** "40 at most": BLOWS. */
    private void mostBlows() {
        String blow = "b0,9,0,1,0;";
        fault(blow.repeat(39), NONE);
        fault(blow.repeat(40), NONE);
        fault(blow.repeat(41), 440);
        fault(blow.repeat(42), 440);
        fault(blow.repeat(40) + "r1;k0,0;" + "b0,9,0,1,9;", 448);
        for (int many : new int[] {0, 1, 39, 40}) {
            ThreeCards x = Due.laid(blow.repeat(many) + THREE);
            due.is(many + " BLOWS", x.count(2), many);
            due.is("SUM of " + many, x.sum(0, 0, 0), many);
            due.is("the last of " + many, x.blow(many - 1, 1), many == 0 ? BAD : 9);
            due.is("none behind " + many, x.blow(many, 1), BAD);
        }
    }

    /** "8 at most, 0, 1, .. as they come": JUDGES. */
    private void mostJudges() {
        fault(JUDGE.repeat(7), NONE);
        fault(JUDGE.repeat(8), NONE);
        fault(JUDGE.repeat(9), 128);
        fault(JUDGE.repeat(10), 128);
        fault(JUDGE.repeat(8) + "r1;" + "j11,9,9,40,9,9,99;", 131);
        StringBuilder text = new StringBuilder();
        for (int judge = 0; judge < 8; judge++) {
            text.append("j0,0,0,").append(21 + judge).append(",1,0,0;r").append(judge + 1).append(';');
        }
        ThreeCards x = Due.laid(text.toString());
        due.is("eight", x.count(1), 8);
        for (int judge = 0; judge < 8; judge++) {
            due.is("as they come: " + judge, x.lead(judge, 0), 1 + judge);
        }
        due.is("no ninth", x.lead(8, 0), -100001);
    }

    /** "once for each ITEM; 3 in a ROUND of both CORNERS together at most": k and d, each by itself. */
    private void mostOfARound(char letter) {
        for (int corners = 0; corners < 16; corners++) {
            for (int round : new int[] {0, 11}) {
                StringBuilder four = new StringBuilder();
                for (int i = 0; i < 4; i++) {
                    four.append(letter).append(round).append(',').append(corners >> i & 1).append(';');
                }
                int last = four.length() / 4 * 3;
                fault(four.substring(0, last), NONE);
                fault(four.toString(), last);
                fault("r1;" + four, last + 3);
            }
        }
        StringBuilder all = new StringBuilder();
        for (int i = 0; i < 36; i++) {
            all.append(letter).append(i / 3).append(',').append(i % 2).append(';');
        }
        fault(all.toString(), NONE);
        for (int round = 0; round < 12; round++) {
            fault(all.toString() + letter + round + ",0;", 186);
            fault(all.toString() + letter + round + ",1;", 186);
        }
        char other = letter == 'k' ? 'd' : 'k';
        fault(all.toString() + all.toString().replace(letter, other), NONE);
    }

    /** Of r, f and h there may be any number: 500 bytes full of them. */
    private void anyNumberOfOthers() {
        fault("r9;".repeat(166), NONE);
        fault("f0,0,9;".repeat(71), NONE);
        fault("h0,9;".repeat(100), NONE);
        fault("h0,9;".repeat(99) + "h0,9,", 495);
    }

    /** "with three JUDGES at least (NO else ...)": 2 and 3; 8. */
    private void layOfTwoAndThree() {
        for (int judges = 0; judges <= 8; judges++) {
            Pair pair = Pair.laid(Pair.FEWEST).noted(1);
            pair.x.wipe();
            pair.y.wipe();
            pair.put("r7;b3,3,1,3,3;" + JUDGE.repeat(judges));
            due.is("no FAULT", pair.x.fault(), NONE);
            due.is("lay() of " + judges, pair.x.lay(), judges < 3 ? NO : judges);
            if (judges >= 3) {
                pair.y.lay();
            }
            due.is("JUDGES now", pair.x.count(1), Math.max(3, judges));
            State.same(due, "lay() of " + judges, pair);
        }
    }

    /** "LAID is a TEXT without FAULT ... (NO else)": a FAULT of any place, and nothing changes. */
    private void layWithFault() {
        String[] wrong = {"x", THREE + "r", THREE + "r0;", "r13;" + THREE, JUDGE.repeat(9), THREE + "k0,0;".repeat(4)};
        for (String letters : wrong) {
            Pair pair = Pair.laid(Pair.FEWEST).noted(2);
            pair.put(letters);
            due.is("lay() of " + letters, pair.x.lay(), NO);
            due.is("and again", pair.x.lay(), NO);
            State.same(due, "lay() of " + letters, pair);
        }
    }

    /** "DELAYS 0, nothing KEPT (TOLD cards, TENTHS stay) (THE TEXT stays)". */
    private void layEndsAndLeaves() {
        ThreeCards x = Due.laid(JUDGE.repeat(8));
        for (int judge = 0; judge < 8; judge++) {
            due.is("DELAY of " + judge, x.delay(judge, 9 - judge), 0);
        }
        x.tell(0, 0, -20);
        x.tell(5, 23, 20);
        x.tenths(0, 0, 0);
        x.tenths(1, 1, 10);
        x.keep();
        x.keep();
        due.is("two KEPT", x.count(5), 2);
        due.is("laid once more", x.lay(), 8);
        due.is("nothing KEPT", x.count(5), 0);
        due.is("nothing to come back", x.back(), NO);
        for (int judge = 0; judge < 8; judge++) {
            due.is("DELAY 0 of " + judge, x.delay(judge, 5), 0);
        }
        due.is("TOLD stays", x.tell(0, 0, 0), -20);
        due.is("TOLD stays", x.tell(5, 23, 0), 20);
        due.is("TENTHS stay", x.tenths(0, 0, 5), 0);
        due.is("TENTHS stay", x.tenths(1, 1, 5), 10);
        due.is("THE TEXT stays", x.count(3), 128);
        due.is("room for two", x.keep(), 1);
        due.is("room for two", x.keep(), 2);
        due.is("not for three", x.keep(), FULL);
    }

    /** LAID is THE TEXT of the call: neither write() nor wipe() behind it changes what is LAID. */
    private void layTakesTheTextOfThen() {
        Pair pair = Pair.laid("r2;b1,7,1,8,3;" + THREE);
        due.is("more bytes", Due.put(pair.x, "r3;b0,0,0,9,0;" + JUDGE), 92);
        due.is("no FAULT", pair.x.fault(), NONE);
        pair.y.write(1, 0);
        due.is("wiped", pair.x.wipe(), 92);
        pair.y.wipe();
        State.same(due, "wiped behind lay()", pair);
    }

    /** "0 without", "0, 0 without", "12 without": what the last fight told is not there any more. */
    private void layHasNothingOfTheLast() {
        String last = "r2;b0,9,0,9,6;b0,9,1,1,0;f0,0,9;f1,1,8;k0,1;k0,1;k1,0;d0,1;d1,0;d1,0;h0,9;j6,9,9,40,9,9,99;"
            + "j0,9,9,0,9,9,99;j3,1,1,20,2,9,1;j0,1,0,20,1,0,0;";
        String judges = "j0,1,1,20,1,1,0;j6,1,1,21,1,1,0;j3,1,1,19,1,1,0;";
        String[] next = {judges, "r2;" + judges, judges + "b0,9,0,9,6;", judges + "b0,9,0,9,2;b1,9,1,9,5;", judges + "k0,0;",
            judges + "d0,1;", judges + "f0,1,9;", judges + "h1,9;", judges + Pair.THREE};
        for (String text : next) {
            Pair pair = Pair.laid(text);
            ThreeCards x = Due.laid(last);
            x.wipe();
            due.is("bytes", Due.put(x, text), text.length());
            due.is("JUDGES", x.lay(), pair.y.count(1));
            State.same(due, text + " behind another", new Pair(x, pair.y));
            for (int round = 0; round < pair.y.count(0); round++) {
                due.is("SUM of 0", x.sum(0, round, 0), pair.y.sum(0, round, 0));
                due.is("SUM of 1", x.sum(1, round, 1), pair.y.sum(1, round, 1));
            }
        }
    }

    /** "its ROUND (what = 0), second (1), CORNER (2), W (3), SIDE (4), JUDGES that SEE it, as bits (5)": least and most. */
    private void blowParts() {
        ThreeCards x = Due.laid("r1;b0,0,0,1,0;b11,179,1,9,11;" + JUDGE.repeat(8));
        int[][] parts = {{0, 0, 0, 1, 0, 255}, {11, 179, 1, 9, 11, 255}};
        for (int k = 0; k < 2; k++) {
            for (int what = 0; what < 6; what++) {
                due.is("blow(" + k + ", " + what + ")", x.blow(k, what), parts[k][what]);
            }
            due.is("what -1", x.blow(k, -1), BAD);
            due.is("what 6", x.blow(k, 6), BAD);
        }
    }

    /** BLOWS are 0, 1, .. as they come; "BAD: a number is none that is told". */
    private void blowPlaces() {
        StringBuilder text = new StringBuilder(THREE);
        for (int k = 0; k < 40; k++) {
            text.append('b').append(k % 10).append(',').append(k / 10).append(",0,1,0;");
        }
        ThreeCards x = Due.laid(text.toString());
        for (int k = 0; k < 40; k++) {
            due.is("ROUND of " + k, x.blow(k, 0), k % 10);
            due.is("second of " + k, x.blow(k, 1), k / 10);
        }
        for (int what = 0; what < 6; what++) {
            due.is("blow(-1, " + what + ")", x.blow(-1, what), BAD);
            due.is("blow(40, " + what + ")", x.blow(40, what), BAD);
            due.is("no BLOWS at first", new ThreeCards().blow(0, what), BAD);
        }
        ThreeCards one = Due.laid("b0,0,0,1,0;" + THREE);
        due.is("the only one", one.blow(0, 3), 1);
        due.is("none behind it", one.blow(1, 3), BAD);
    }

    /** "JUDGES that SEE it, as bits": none, the first, the last, all. */
    private void blowSeenBy() {
        String there = "j6,1,0,20,1,0,0;";
        due.is("none", Due.laid("b0,0,0,1,0;" + there.repeat(8)).blow(0, 5), 0);
        due.is("the first", Due.laid("b0,0,0,1,0;" + JUDGE + there.repeat(7)).blow(0, 5), 1);
        due.is("the last", Due.laid("b0,0,0,1,0;" + there.repeat(7) + JUDGE).blow(0, 5), 128);
        due.is("all", Due.laid("b0,0,0,1,0;" + JUDGE.repeat(8)).blow(0, 5), 255);
        due.is("all of three", Due.laid("b0,0,0,1,0;" + THREE).blow(0, 5), 7);
    }

    /** "How many: 0 ROUNDS, 1 JUDGES, 2 BLOWS, 3 bytes of THE TEXT, 4 MARGINS TOLD, 5 KEPT": fewest and most. */
    private void countsAtTheirEnds() {
        ThreeCards fewest = Due.laid("r1;" + THREE);
        fewest.wipe();
        int[] least = {1, 3, 0, 0, 0, 0};
        for (int what = 0; what < 6; what++) {
            due.is("fewest: count(" + what + ")", fewest.count(what), least[what]);
        }
        due.is("count(-1)", fewest.count(-1), BAD);
        due.is("count(6)", fewest.count(6), BAD);
        ThreeCards most = Due.laid(Pair.MOST_BLOWS);
        for (int i = 0; i < 144; i++) {
            due.is("none was TOLD", most.tell(i / 24, i % 24, 0), -21);
            due.is("MARGINS TOLD", most.count(4), i + 1);
        }
        most.keep();
        most.keep();
        due.is("12 ROUNDS", most.count(0), 12);
        due.is("40 BLOWS", most.count(2), 40);
        due.is("500 bytes", most.count(3), 500);
        due.is("144 TOLD", most.count(4), 144);
        due.is("told anew", most.tell(5, 23, 7), 0);
        due.is("144 still", most.count(4), 144);
        due.is("2 KEPT", most.count(5), 2);
        due.is("8 JUDGES", Due.laid(Pair.MOST_JUDGES).count(1), 8);
    }
}
