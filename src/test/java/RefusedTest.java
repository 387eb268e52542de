/**
 * "BAD: a number is none that is told. NO: not as things stand. NONE: there is none. FULL. Of several the first in this
 * order; nothing changes then." Each call that answers one of these, in each state in which it does, and all that the
 * object answers afterwards.
 */
public final class RefusedTest {
    private static final int BAD = -1, NO = -2, FULL = -3, NONE = -4;

    private final Due due = new Due();

    public static void main(String[] args) {
        RefusedTest test = new RefusedTest();
        test.badAheadOfFull();
        test.badAheadOfNone();
        test.badAheadOfAll();
        test.writeFull();
        test.keepFull();
        test.layNo();
        test.backNo();
        test.none();
        test.badOfEachCall();
        test.goesOnBehindRefusals();
        test.due.close();
    }

    private static Pair[] states() {
        return new Pair[] {
            new Pair(), new Pair().noted(2), Pair.laid(Pair.FEWEST), Pair.laid(Pair.FEWEST).noted(1),
            Pair.laid(Pair.MOST_JUDGES).noted(1), Pair.laid(Pair.MOST_BLOWS).noted(2)
        };
    }

    /** Of BAD and FULL BAD: write() to a full TEXT. */
    private void badAheadOfFull() {
        Pair pair = Pair.laid(Pair.MOST_BLOWS).noted(2);
        due.is("0 bytes to a full TEXT", pair.x.write(0, 0), BAD);
        due.is("9 bytes to a full TEXT", pair.x.write(9, 0), BAD);
        due.is("1 byte to a full TEXT", pair.x.write(1, 0), FULL);
        State.same(due, "BAD ahead of FULL", pair);
    }

    /** Of BAD and NONE BAD: same() of no NIGHTS, unlike() of nothing told, added() where nothing is wrong. */
    private void badAheadOfNone() {
        Pair pair = new Pair();
        ThreeCards x = pair.x;
        due.is("NONE of two NAMES", x.same(0, 1, 2), NONE);
        due.is("one NAME twice", x.same(1, 1, 2), BAD);
        due.is("no such NAME", x.same(0, 6, 2), BAD);
        due.is("NONE of a NAME", x.unlike(5), NONE);
        due.is("no such NAME", x.unlike(6), BAD);
        due.is("NONE of the POINTS", x.added(0, 0, 240, 240, 240), NONE);
        due.is("NONE of the RULE", x.added(3, 0, 240, 240, 240), BAD);
        due.is("no such CORNER", x.added(0, 2, 240, 240, 240), BAD);
        State.same(due, "BAD ahead of NONE", pair);
    }

    /** Several numbers that are none are BAD once. */
    private void badAheadOfAll() {
        for (Pair pair : states()) {
            ThreeCards x = pair.x;
            due.is("blow", x.blow(-1, 6), BAD);
            due.is("sum", x.sum(8, 12, 2), BAD);
            due.is("lead", x.lead(-1, 12), -100001);
            due.is("close", x.close(-1, -1), BAD);
            due.is("margin", x.margin(4, 8, 12), -100001);
            due.is("card", x.card(4, 8), -100001);
            due.is("points", x.points(3, 8, 2), BAD);
            due.is("end", x.end(4, 8, 8, 8, 2), BAD);
            due.is("others", x.others(4, 3), BAD);
            due.is("coins", x.coins(2, 8, 8, 8, 3, 2), BAD);
            due.is("delay", x.delay(8, 10), BAD);
            due.is("buttons", x.buttons(12, 9, 10, 4), BAD);
            due.is("tell", x.tell(6, 24, 21), -22);
            due.is("same", x.same(6, 6, 3), BAD);
            due.is("lean", x.lean(6, 2), -100001);
            due.is("added", x.added(3, 2, 1000, -1, 1000), BAD);
            due.is("tenths", x.tenths(2, 2, 11), BAD);
            due.is("open", x.open(13, 13, 3), BAD);
            due.is("hidden", x.hidden(0, -13, -1), BAD);
            State.same(due, "all BAD", pair);
        }
    }

    /** FULL of write(): of each number of bytes, at 500 and at each length that leaves too little. */
    private void writeFull() {
        Pair full = Pair.laid(Pair.MOST_JUDGES).noted(1);
        for (int n = 1; n <= 8; n++) {
            due.is("write(" + n + ")", full.x.write(n, -1L), FULL);
        }
        State.same(due, "write FULL", full);
        for (int n = 2; n <= 8; n++) {
            Pair pair = Pair.laid(Pair.FEWEST);
            pair.put("h0,9;".repeat(100).substring(0, 501 - n - Pair.FEWEST.length()));
            due.is("one too many of " + n, pair.x.write(n, -1L), FULL);
            due.is("one fewer", pair.x.write(n - 1, 0), 500);
            pair.y.write(n - 1, 0);
            State.same(due, "write FULL of " + n, pair);
        }
    }

    /** FULL of keep(): the two KEPT are as they were. */
    private void keepFull() {
        for (String text : new String[] {Pair.FEWEST, Pair.MOST_JUDGES}) {
            Pair pair = Pair.laid(text).noted(2);
            due.is("keep()", pair.x.keep(), FULL);
            due.is("keep() again", pair.x.keep(), FULL);
            State.same(due, "keep FULL", pair);
        }
    }

    /** NO of lay(): no JUDGES, two, a FAULT; DELAYS, KEPT and what is LAID are as they were. */
    private void layNo() {
        String[] texts = {"", "r1;", Pair.JUDGE, Pair.JUDGE.repeat(2) + "b0,0,0,1,0;r2;", Pair.THREE + "j", "x" + Pair.THREE,
            Pair.JUDGE.repeat(9)};
        for (String text : texts) {
            for (Pair pair : states()) {
                pair.x.wipe();
                pair.y.wipe();
                pair.put(text);
                due.is("lay() of " + text, pair.x.lay(), NO);
                State.same(due, "lay NO of " + text, pair);
            }
        }
    }

    /** NO of back(): DELAYS, TOLD cards, TENTHS are as they were. */
    private void backNo() {
        for (String text : new String[] {Pair.FEWEST, Pair.MOST_JUDGES}) {
            Pair pair = Pair.laid(text).noted(0);
            due.is("back()", pair.x.back(), NO);
            due.is("back() again", pair.x.back(), NO);
            State.same(due, "back NO", pair);
        }
    }

    /** NONE of fault(), same(), unlike(), added(). */
    private void none() {
        for (Pair pair : states()) {
            ThreeCards x = pair.x;
            due.is("fault()", x.fault(), NONE);
            due.is("same()", x.same(0, 5, 2), NONE);
            due.is("unlike()", x.unlike(5), NONE);
            int[] sums = {pair.y.points(1, 0, 1), pair.y.points(1, 1, 1), pair.y.points(1, 2, 1)};
            due.is("added()", x.added(1, 1, sums[0], sums[1], sums[2]), NONE);
            State.same(due, "NONE", pair);
        }
    }

    /** BAD of each call that has one, each by a single number. */
    private void badOfEachCall() {
        for (Pair pair : states()) {
            ThreeCards x = pair.x;
            int judges = pair.y.count(1);
            int rounds = pair.y.count(0);
            due.is("write", x.write(9, 0x7231323B7231313BL), BAD);
            due.is("blow", x.blow(pair.y.count(2), 0), BAD);
            due.is("sum", x.sum(judges, 0, 0), BAD);
            due.is("lead", x.lead(0, rounds), -100001);
            due.is("close", x.close(judges, 0), BAD);
            due.is("margin", x.margin(0, 0, rounds), -100001);
            due.is("card", x.card(0, judges), -100001);
            due.is("points", x.points(3, 0, 0), BAD);
            due.is("end", x.end(0, 0, 1, judges, 0), BAD);
            due.is("others", x.others(0, 3), BAD);
            due.is("men", x.men(4), BAD);
            due.is("coins", x.coins(0, 0, 1, judges, 0, 0), BAD);
            due.is("seats", x.seats(5), BAD);
            due.is("delay", x.delay(judges, 1), BAD);
            due.is("buttons", x.buttons(rounds, 1, 0, 0), BAD);
            due.is("tell", x.tell(0, 0, 21), -22);
            due.is("same", x.same(0, 0, 0), BAD);
            due.is("lean", x.lean(0, 2), -100001);
            due.is("unlike", x.unlike(6), BAD);
            due.is("added", x.added(0, 0, 0, 0, 1000), BAD);
            due.is("tenths", x.tenths(0, 0, 11), BAD);
            due.is("open", x.open(0, 0, 0), BAD);
            due.is("hidden", x.hidden(0, 0, 0), BAD);
            due.is("count", x.count(6), BAD);
            State.same(due, "BAD of each call", pair);
        }
    }

    /** What was refused is taken as soon as things stand otherwise. */
    private void goesOnBehindRefusals() {
        ThreeCards x = new ThreeCards();
        due.is("no JUDGES", x.lay(), NO);
        Due.put(x, Pair.JUDGE.repeat(2));
        due.is("two", x.lay(), NO);
        Due.put(x, Pair.JUDGE + "b0,0,0,1,0");
        due.is("no ; yet", x.lay(), NO);
        due.is("nor a BLOW", x.blow(0, 0), BAD);
        due.is("the ;", x.write(1, ';'), 59);
        due.is("laid", x.lay(), 3);
        due.is("the BLOW", x.blow(0, 0), 0);
        due.is("no fourth JUDGE", x.delay(3, 1), BAD);
        Due.put(x, Pair.JUDGE);
        due.is("laid anew", x.lay(), 4);
        due.is("the fourth", x.delay(3, 1), 0);
        due.is("the fifth is BAD", x.delay(4, 1), BAD);
        x.wipe();
        Due.put(x, "r1;" + Pair.THREE);
        due.is("three again", x.lay(), 3);
        due.is("no fourth again", x.delay(3, 1), BAD);
        due.is("no second ROUND", x.lead(0, 1), -100001);
        due.is("no BLOW", x.blow(0, 0), BAD);
    }
}
