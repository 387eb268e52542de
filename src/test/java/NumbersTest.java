import java.util.ArrayList;
import java.util.List;

/**
 * Each number of each call at the smallest and the largest that the document tells, and beyond both. What is inside is
 * answered as the document's second writing answers it; what is beyond is BAD, and "nothing changes then".
 */
public final class NumbersTest {
    private static final int BAD = -1, BAD_TOLD = -22, BAD_LEAD = -100001;

    private interface OnCards {
        long call(ThreeCards x, int[] n);
    }

    private interface OnPlain {
        long call(Plain y, int[] n);
    }

    /** A call; its numbers from low to high; unlike tells of which one of its numbers on so many may not be alike. */
    private record Face(String name, long bad, int[] low, int[] high, int unlikeFrom, int unlikeMany, OnCards cards,
            OnPlain plain) {
    }

    private final Due due = new Due();
    private final List<Face> faces = new ArrayList<>();

    public static void main(String[] args) {
        NumbersTest test = new NumbersTest();
        String[] texts = {"", Pair.FEWEST, Pair.MOST_JUDGES, Pair.MOST_BLOWS};
        for (String text : texts) {
            test.faces.clear();
            Plain known = fresh(text).y;
            test.fights(known.count(0), known.count(1), known.count(2));
            test.cards(known.count(0), known.count(1));
            test.buttons(known.count(0), known.count(1));
            test.told();
            test.open();
            test.due.is("calls with numbers", test.faces.size(), 24);
            for (Face face : test.faces) {
                test.edges(text, face);
                test.beyond(text, face);
            }
        }
        test.due.close();
    }

    private void add(String name, long bad, int[] low, int[] high, OnCards cards, OnPlain plain) {
        faces.add(new Face(name, bad, low, high, 0, 0, cards, plain));
    }

    private void fights(int rounds, int judges, int blows) {
        add("write", BAD, new int[] {1}, new int[] {8}, (x, n) -> x.write(n[0], -1L), (y, n) -> y.write(n[0], -1L));
        add("blow", BAD, new int[] {0, 0}, new int[] {blows - 1, 5}, (x, n) -> x.blow(n[0], n[1]),
            (y, n) -> y.blow(n[0], n[1]));
        add("sum", BAD, new int[] {0, 0, 0}, new int[] {judges - 1, rounds - 1, 1}, (x, n) -> x.sum(n[0], n[1], n[2]),
            (y, n) -> y.sum(n[0], n[1], n[2]));
        add("lead", BAD_LEAD, new int[] {0, 0}, new int[] {judges - 1, rounds - 1}, (x, n) -> x.lead(n[0], n[1]),
            (y, n) -> y.lead(n[0], n[1]));
        add("close", BAD, new int[] {0, 0}, new int[] {judges - 1, rounds - 1}, (x, n) -> x.close(n[0], n[1]),
            (y, n) -> y.close(n[0], n[1]));
        add("count", BAD, new int[] {0}, new int[] {5}, (x, n) -> x.count(n[0]), (y, n) -> y.count(n[0]));
    }

    private void cards(int rounds, int judges) {
        int j = judges - 1;
        add("margin", BAD_LEAD, new int[] {0, 0, 0}, new int[] {3, j, rounds - 1}, (x, n) -> x.margin(n[0], n[1], n[2]),
            (y, n) -> y.margin(n[0], n[1], n[2]));
        add("card", BAD_LEAD, new int[] {0, 0}, new int[] {3, j}, (x, n) -> x.card(n[0], n[1]),
            (y, n) -> y.card(n[0], n[1]));
        add("points", BAD, new int[] {0, 0, 0}, new int[] {2, j, 1}, (x, n) -> x.points(n[0], n[1], n[2]),
            (y, n) -> y.points(n[0], n[1], n[2]));
        faces.add(new Face("end", BAD, new int[] {0, 0, 0, 0, 0}, new int[] {3, j, j, j, 1}, 1, 3,
            (x, n) -> x.end(n[0], n[1], n[2], n[3], n[4]), (y, n) -> y.end(n[0], n[1], n[2], n[3], n[4])));
        add("others", BAD, new int[] {0, 0}, new int[] {3, 2}, (x, n) -> x.others(n[0], n[1]),
            (y, n) -> y.others(n[0], n[1]));
        add("men", BAD, new int[] {0}, new int[] {3}, (x, n) -> x.men(n[0]), (y, n) -> y.men(n[0]));
        faces.add(new Face("coins", BAD, new int[] {0, 0, 0, 0, -1, 0}, new int[] {1, j, j, j, 2, 0}, 1, 3,
            (x, n) -> x.coins(n[0], n[1], n[2], n[3], n[4], n[5]), (y, n) -> y.coins(n[0], n[1], n[2], n[3], n[4], n[5])));
        faces.add(new Face("odds of coins", BAD, new int[] {0, 0, 0, 0, 0}, new int[] {1, j, j, j, 1}, 1, 3,
            (x, n) -> x.coins(n[0], n[1], n[2], n[3], 2, n[4]), (y, n) -> y.coins(n[0], n[1], n[2], n[3], 2, n[4])));
        add("seats", BAD, new int[] {0}, new int[] {4}, (x, n) -> x.seats(n[0]), (y, n) -> y.seats(n[0]));
        add("added", BAD, new int[] {0, 0, 0, 0, 0}, new int[] {2, 1, 999, 999, 999},
            (x, n) -> x.added(n[0], n[1], n[2], n[3], n[4]), (y, n) -> y.added(n[0], n[1], n[2], n[3], n[4]));
    }

    private void buttons(int rounds, int judges) {
        add("delay", BAD, new int[] {0, 0}, new int[] {judges - 1, 9}, (x, n) -> x.delay(n[0], n[1]),
            (y, n) -> y.delay(n[0], n[1]));
        add("buttons", BAD, new int[] {-1, 1, 0, 0}, new int[] {rounds - 1, 8, 9, 3},
            (x, n) -> x.buttons(n[0], n[1], n[2], n[3]), (y, n) -> y.buttons(n[0], n[1], n[2], n[3]));
    }

    private void told() {
        add("tell", BAD_TOLD, new int[] {0, 0, -21}, new int[] {5, 23, 20}, (x, n) -> x.tell(n[0], n[1], n[2]),
            (y, n) -> y.tell(n[0], n[1], n[2]));
        faces.add(new Face("same", BAD, new int[] {0, 0, 0}, new int[] {5, 5, 2}, 0, 2,
            (x, n) -> x.same(n[0], n[1], n[2]), (y, n) -> y.same(n[0], n[1], n[2])));
        add("lean", BAD_LEAD, new int[] {0, 0}, new int[] {5, 1}, (x, n) -> x.lean(n[0], n[1]),
            (y, n) -> y.lean(n[0], n[1]));
        add("unlike", BAD, new int[] {0}, new int[] {5}, (x, n) -> x.unlike(n[0]), (y, n) -> y.unlike(n[0]));
    }

    private void open() {
        add("tenths", BAD, new int[] {0, 0, 0}, new int[] {1, 1, 10}, (x, n) -> x.tenths(n[0], n[1], n[2]),
            (y, n) -> y.tenths(n[0], n[1], n[2]));
        // OPEN and HIDDEN take the same numbers.
        add("open, hidden", BAD, new int[] {1, -12, 0}, new int[] {12, 12, 2},
            (x, n) -> both(x.open(n[0], n[1], n[2]), x.hidden(n[0], n[1], n[2])),
            (y, n) -> both(y.open(n[0], n[1], n[2]), y.hidden(n[0], n[1], n[2])));
    }

    private static long both(int open, int hidden) {
        return open == BAD && hidden == BAD ? BAD : open * 10000000L + hidden;
    }

    private static Pair fresh(String text) {
        return (text.isEmpty() ? new Pair() : Pair.laid(text)).noted(1);
    }

    /** The numbers with the one at place i put to v, and the others that may not be alike off it. */
    private static int[] numbers(Face face, int i, int v) {
        int[] n = face.low().clone();
        int behind = face.unlikeFrom() + face.unlikeMany();
        boolean isOne = i >= face.unlikeFrom() && i < behind;
        int next = 0;
        for (int k = face.unlikeFrom(); k < behind; k++) {
            next += isOne && next == v ? 1 : 0;
            n[k] = next;
            next += k == i ? 0 : 1;
        }
        n[i] = v;
        return n;
    }

    private void edges(String text, Face face) {
        Pair pair = fresh(text);
        for (int i = 0; i < face.low().length; i++) {
            for (int v : new int[] {face.low()[i], face.high()[i]}) {
                int[] n = numbers(face, i, v);
                long want = face.plain().call(pair.y, n);
                boolean none = face.name().equals("blow") && pair.y.count(2) == 0;
                boolean full = face.name().equals("write") && want == -3;
                String call = face.name() + java.util.Arrays.toString(n);
                due.is(call, face.cards().call(pair.x, n), want);
                due.isTrue(call + " is taken", none || full || want != face.bad());
            }
        }
        State.same(due, face.name() + " at its edges", pair);
    }

    private void beyond(String text, Face face) {
        Pair pair = fresh(text);
        for (int i = 0; i < face.low().length; i++) {
            int[] out = {face.low()[i] - 1, face.high()[i] + 1, Integer.MIN_VALUE, Integer.MAX_VALUE};
            for (int v : out) {
                int[] n = numbers(face, i, v);
                due.is(face.name() + java.util.Arrays.toString(n), face.cards().call(pair.x, n), face.bad());
            }
        }
        State.same(due, face.name() + " beyond its edges", pair);
    }
}
