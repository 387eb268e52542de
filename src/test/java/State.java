/**
 * Compares all that an object answers with what a Plain answers. With one thing KEPT it takes 390 calls at most, so that
 * some 120 may stand before it: an object is used for 512.
 */
final class State {
    private State() {
    }

    static void same(Due due, String name, Pair pair) {
        fight(due, name, pair);
        notes(due, name, pair);
    }

    /** What is LAID and THE TEXT; it changes nothing. */
    static void fight(Due due, String name, Pair pair) {
        ThreeCards x = pair.x;
        Plain y = pair.y;
        for (int what = 0; what <= 5; what++) {
            due.is(name + ": then count(" + what + ")", x.count(what), y.count(what));
        }
        due.is(name + ": then fault()", x.fault(), y.fault());
        for (int k = 0; k < y.count(2); k++) {
            due.is(name + ": then blow(" + k + ")", x.blow(k, k % 5), y.blow(k, k % 5));
            due.is(name + ": then who SEES blow " + k, x.blow(k, 5), y.blow(k, 5));
        }
        for (int judge = 0; judge < y.count(1); judge++) {
            for (int round = 0; round < y.count(0); round++) {
                due.is(name + ": then lead(" + judge + ", " + round + ")", x.lead(judge, round), y.lead(judge, round));
            }
            for (int rule = 0; rule < 4; rule++) {
                due.is(name + ": then card(" + rule + ", " + judge + ")", x.card(rule, judge), y.card(rule, judge));
            }
        }
    }

    /** DELAYS, TOLD cards, TENTHS and what is KEPT of them; it leaves none of these as they were. */
    static void notes(Due due, String name, Pair pair) {
        ThreeCards x = pair.x;
        Plain y = pair.y;
        due.is(name + ": then buttons", x.buttons(-1, 2, 3, 3), y.buttons(-1, 2, 3, 3));
        due.is(name + ": then open", x.open(12, 0, 0), y.open(12, 0, 0));
        due.is(name + ": then hidden", x.hidden(12, 0, 0), y.hidden(12, 0, 0));
        for (int i = 0; i < 144; i++) {
            due.is(name + ": then tell " + i, x.tell(i / 24, i % 24, -21), y.tell(i / 24, i % 24, -21));
        }
        delaysAndTenths(due, name, pair);
        while (y.count(5) > 0) {
            due.is(name + ": then back()", x.back(), y.back());
            due.is(name + ": KEPT MARGINS", x.count(4), y.count(4));
            for (int i = 0; i < 12; i++) {
                due.is(name + ": KEPT MARGIN " + i, x.tell(i / 3, i % 6, 0), y.tell(i / 3, i % 6, 0));
            }
            delaysAndTenths(due, name, pair);
        }
        due.is(name + ": then nothing is KEPT", x.back(), -2);
    }

    private static void delaysAndTenths(Due due, String name, Pair pair) {
        for (int judge = 0; judge < pair.y.count(1); judge++) {
            due.is(name + ": then delay(" + judge + ")", pair.x.delay(judge, 0), pair.y.delay(judge, 0));
        }
        for (int i = 0; i < 4; i++) {
            due.is(name + ": then tenths " + i, pair.x.tenths(i / 2, i % 2, 5), pair.y.tenths(i / 2, i % 2, 5));
        }
    }
}
