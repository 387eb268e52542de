import java.util.ArrayList;
import java.util.Arrays;
import java.util.Collections;
import java.util.HashMap;
import java.util.List;
import java.util.Map;
import java.util.TreeMap;
import java.util.regex.Matcher;
import java.util.regex.Pattern;

/**
 * The document once more, word by word, with the whole Java library and no thought of speed: the answers of
 * ThreeCards are compared with this one's in CrossTest. It shares no code with the class.
 */
final class Plain {
    private static final Pattern ITEM = Pattern.compile("([a-z])(\\d{1,3}(?:,\\d{1,3})*);");
    private static final Map<String, int[][]> BOUNDS = Map.of(
        "r", new int[][] {{1, 12}},
        "b", new int[][] {{0, 11}, {0, 179}, {0, 1}, {1, 9}, {0, 11}},
        "f", new int[][] {{0, 11}, {0, 1}, {0, 9}},
        "k", new int[][] {{0, 11}, {0, 1}},
        "d", new int[][] {{0, 11}, {0, 1}},
        "h", new int[][] {{0, 1}, {0, 9}},
        "j", new int[][] {{0, 11}, {0, 9}, {0, 9}, {0, 40}, {1, 9}, {0, 9}, {0, 99}});

    /** The ITEMS of a TEXT. */
    private static final class Told {
        int rounds = 12;
        int[] home = {0, 0};
        List<int[]> blows = new ArrayList<>();
        List<int[]> judges = new ArrayList<>();
        List<int[]> downs = new ArrayList<>();
        List<int[]> taken = new ArrayList<>();
        int[][] forward = new int[12][2];
        int fault = -4;
    }

    private String text = "";
    private Told told = read("j0,1,0,20,1,0,0;j0,1,0,20,1,0,0;j0,1,0,20,1,0,0;");
    private int[] delays = new int[8];
    private Integer[][] margins = new Integer[6][24];
    private int[][] tenths = {{5, 5}, {5, 5}};
    private List<Object[]> kept = new ArrayList<>();

    private static Told read(String text) {
        Told told = new Told();
        int place = 0;
        while (place < text.length()) {
            Matcher item = ITEM.matcher(text).region(place, text.length());
            if (!item.lookingAt() || !take(told, item.group(1), item.group(2).split(","))) {
                told.fault = place;
                return told;
            }
            place = item.end();
        }
        return told;
    }

    private static boolean take(Told told, String letter, String[] words) {
        int[][] bounds = BOUNDS.get(letter);
        if (bounds == null || bounds.length != words.length) {
            return false;
        }
        int[] n = new int[words.length];
        for (int i = 0; i < n.length; i++) {
            n[i] = Integer.parseInt(words[i]);
            if (n[i] < bounds[i][0] || n[i] > bounds[i][1]) {
                return false;
            }
        }
        switch (letter) {
            case "r": told.rounds = n[0]; return true;
            case "b": told.blows.add(n); return told.blows.size() <= 40;
            case "f": told.forward[n[0]][n[1]] = n[2]; return true;
            case "k": told.downs.add(n); return told.downs.stream().filter(k -> k[0] == n[0]).count() <= 3;
            case "d": told.taken.add(n); return told.taken.stream().filter(d -> d[0] == n[0]).count() <= 3;
            case "h": told.home = n; return true;
            default: told.judges.add(n); return told.judges.size() <= 8;
        }
    }

    private boolean bad(int v, int low, int high) {
        return v < low || v > high;
    }

    private boolean badJudge(int judge) {
        return bad(judge, 0, told.judges.size() - 1);
    }

    private boolean badRound(int round) {
        return bad(round, 0, told.rounds - 1);
    }

    int write(int n, long v) {
        if (bad(n, 1, 8)) {
            return -1;
        }
        if (text.length() + n > 500) {
            return -3;
        }
        for (int i = n - 1; i >= 0; i--) {
            text += (char) (v >>> 8 * i & 255);
        }
        return text.length();
    }

    int wipe() {
        int was = text.length();
        text = "";
        return was;
    }

    int fault() {
        return read(text).fault;
    }

    int lay() {
        Told next = read(text);
        if (next.fault != -4 || next.judges.size() < 3) {
            return -2;
        }
        told = next;
        delays = new int[8];
        kept.clear();
        return told.judges.size();
    }

    private boolean sees(int judge, int[] blow) {
        int seat = told.judges.get(judge)[0];
        for (int off = -4; off <= 4; off++) {
            if ((seat + off + 12) % 12 == blow[4]) {
                return true;
            }
        }
        return false;
    }

    int blow(int k, int what) {
        if (bad(k, 0, told.blows.size() - 1) || bad(what, 0, 5)) {
            return -1;
        }
        int[] blow = told.blows.get(k);
        if (what < 5) {
            return blow[what];
        }
        int bits = 0;
        for (int judge = 0; judge < told.judges.size(); judge++) {
            bits += sees(judge, blow) ? 1 << judge : 0;
        }
        return bits;
    }

    int sum(int judge, int round, int corner) {
        if (badJudge(judge) || badRound(round) || bad(corner, 0, 1)) {
            return -1;
        }
        int[] j = told.judges.get(judge);
        int sum = j[2] * told.forward[round][corner];
        int unseen = 0;
        for (int[] blow : told.blows) {
            if (blow[0] == round && blow[2] == corner) {
                if (sees(judge, blow)) {
                    sum += j[1] * blow[3] * (blow[1] >= 170 ? j[4] : 1);
                } else {
                    unseen++;
                }
            }
        }
        return corner == told.home[0] ? sum + told.home[1] * j[5] * unseen : sum;
    }

    int lead(int judge, int round) {
        if (badJudge(judge) || badRound(round)) {
            return -100001;
        }
        return sum(judge, round, 0) - sum(judge, round, 1) + told.judges.get(judge)[3] - 20;
    }

    int close(int judge, int round) {
        if (badJudge(judge) || badRound(round)) {
            return -1;
        }
        return Math.abs(lead(judge, round)) <= told.judges.get(judge)[6] ? 1 : 0;
    }

    private int in(List<int[]> items, int round, int corner) {
        return (int) items.stream().filter(i -> i[0] == round && i[1] == corner).count();
    }

    /** What the ROUND itself gives, without knockdowns. */
    private int base(int rule, int judge, int round) {
        int lead = lead(judge, round);
        if (rule == 3) {
            int miles = lead == 0 ? 0 : (Math.abs(lead) / 5 + 1) * (lead > 0 ? 1 : -1);
            return Math.max(-20, Math.min(20, miles));
        }
        int base = 2;
        for (int r = 0; r <= round; r++) {
            base = lead(judge, r) > 0 ? 2 : lead(judge, r) < 0 ? -2 : base;
        }
        boolean close = close(judge, round) == 1;
        return rule == 1 && close ? base / 2 : rule == 2 && close ? 0 : base;
    }

    private int withDowns(int rule, int base, int round) {
        int downs = in(told.downs, round, 1) - in(told.downs, round, 0);
        return rule == 3 ? base + 4 * downs : Math.max(-8, Math.min(8, base + 2 * downs));
    }

    int margin(int rule, int judge, int round) {
        if (bad(rule, 0, 3) || badJudge(judge) || badRound(round)) {
            return -100001;
        }
        return withDowns(rule, base(rule, judge, round), round);
    }

    private int takenOf(int corner) {
        int all = 0;
        for (int round = 0; round < told.rounds; round++) {
            all += in(told.taken, round, corner);
        }
        return all;
    }

    int card(int rule, int judge) {
        if (bad(rule, 0, 3) || badJudge(judge)) {
            return -100001;
        }
        int card = 2 * takenOf(1) - 2 * takenOf(0);
        for (int round = 0; round < told.rounds; round++) {
            card += margin(rule, judge, round);
        }
        return card;
    }

    int points(int rule, int judge, int corner) {
        if (bad(rule, 0, 2) || badJudge(judge) || bad(corner, 0, 1)) {
            return -1;
        }
        int points = -2 * takenOf(corner);
        for (int round = 0; round < told.rounds; round++) {
            int margin = margin(rule, judge, round);
            int forOther = corner == 0 ? -margin : margin;
            points += forOther > 0 ? 20 - forOther : 20;
        }
        return points;
    }

    private static int endOf(int... cards) {
        int zero = 0;
        int one = 0;
        for (int card : cards) {
            zero += card > 0 ? 1 : 0;
            one += card < 0 ? 1 : 0;
        }
        return zero >= 2 ? 0 : one >= 2 ? 1 : 2;
    }

    private static int kindOf(int... cards) {
        int zero = 0;
        int one = 0;
        for (int card : cards) {
            zero += card > 0 ? 1 : 0;
            one += card < 0 ? 1 : 0;
        }
        String kind = Math.max(zero, one) + "" + Math.min(zero, one);
        return Map.of("30", 0, "00", 0, "20", 1, "21", 2).getOrDefault(kind, 3);
    }

    private boolean badThree(int a, int b, int c) {
        return badJudge(a) || badJudge(b) || badJudge(c) || a == b || b == c || a == c;
    }

    int end(int rule, int a, int b, int c, int what) {
        if (bad(rule, 0, 3) || badThree(a, b, c) || bad(what, 0, 1)) {
            return -1;
        }
        int[] cards = {card(rule, a), card(rule, b), card(rule, c)};
        return what == 0 ? endOf(cards) : kindOf(cards);
    }

    int others(int rule, int end) {
        if (bad(rule, 0, 3) || bad(end, 0, 2)) {
            return -1;
        }
        int sets = 0;
        for (int bits = 0; bits < 1 << told.judges.size(); bits++) {
            if (Integer.bitCount(bits) == 3) {
                List<Integer> three = new ArrayList<>();
                for (int judge = 0; judge < 8; judge++) {
                    if ((bits >> judge & 1) == 1) {
                        three.add(judge);
                    }
                }
                sets += end(rule, three.get(0), three.get(1), three.get(2), 0) == end ? 1 : 0;
            }
        }
        return sets;
    }

    int men(int rule) {
        if (bad(rule, 0, 3)) {
            return -1;
        }
        int[] hard = new int[2];
        for (int[] blow : told.blows) {
            if (blow[0] < told.rounds) {
                hard[blow[2]] += blow[3];
            }
        }
        int bits = 0;
        for (int judge = 0; judge < told.judges.size(); judge++) {
            bits += (long) card(rule, judge) * (hard[0] - hard[1]) < 0 ? 1 << judge : 0;
        }
        return bits;
    }

    /** How many ways of the coins lead to each CARD of a JUDGE. */
    private Map<Integer, Long> waysOf(int rule, int judge) {
        Map<Integer, Long> ways = new TreeMap<>();
        ways.put(2 * takenOf(1) - 2 * takenOf(0), 1L);
        for (int round = 0; round < told.rounds; round++) {
            int base = base(rule, judge, round);
            Map<Integer, Long> next = new TreeMap<>();
            for (Map.Entry<Integer, Long> way : ways.entrySet()) {
                next.merge(way.getKey() + withDowns(rule, base, round), way.getValue(), Long::sum);
                if (close(judge, round) == 1) {
                    next.merge(way.getKey() + withDowns(rule, -base, round), way.getValue(), Long::sum);
                }
            }
            ways = next;
        }
        return ways;
    }

    long coins(int rule, int a, int b, int c, int end, int part) {
        if (bad(rule, 0, 1) || badThree(a, b, c) || bad(end, -1, 2) || bad(part, 0, 1) || end == -1 && part != 0) {
            return -1;
        }
        int coins = 0;
        for (int judge : new int[] {a, b, c}) {
            for (int round = 0; round < told.rounds; round++) {
                coins += close(judge, round);
            }
        }
        if (end == -1) {
            return coins;
        }
        long above = 0;
        Map<Integer, Long> second = waysOf(rule, b);
        Map<Integer, Long> third = waysOf(rule, c);
        for (Map.Entry<Integer, Long> one : waysOf(rule, a).entrySet()) {
            for (Map.Entry<Integer, Long> two : second.entrySet()) {
                for (Map.Entry<Integer, Long> three : third.entrySet()) {
                    if (endOf(one.getKey(), two.getKey(), three.getKey()) == end) {
                        above += one.getValue() * two.getValue() * three.getValue();
                    }
                }
            }
        }
        long below = 1L << coins;
        long common = java.math.BigInteger.valueOf(above).gcd(java.math.BigInteger.valueOf(below)).longValue();
        return part == 0 ? above / common : below / common;
    }

    int seats(int what) {
        if (bad(what, 0, 4)) {
            return -1;
        }
        int[] best = null;
        for (int a = 0; a < 12; a++) {
            for (int b = a + 1; b < 12; b++) {
                for (int c = b + 1; c < 12; c++) {
                    int few = 0;
                    int none = 0;
                    for (int[] blow : told.blows) {
                        int seers = 0;
                        for (int seat : new int[] {a, b, c}) {
                            int off = (seat - blow[4] + 12) % 12;
                            seers += off <= 4 || off >= 8 ? 1 : 0;
                        }
                        few += blow[0] < told.rounds && seers < 2 ? 1 : 0;
                        none += blow[0] < told.rounds && seers == 0 ? 1 : 0;
                    }
                    if (best == null || few * 100 + none < best[3] * 100 + best[4]) {
                        best = new int[] {a, b, c, few, none};
                    }
                }
            }
        }
        return best[what];
    }

    int delay(int judge, int d) {
        if (badJudge(judge) || bad(d, 0, 9)) {
            return -1;
        }
        int was = delays[judge];
        delays[judge] = d;
        return was;
    }

    private int pressed(int round, int corner, int q, int w) {
        List<int[]> presses = new ArrayList<>();
        for (int[] blow : told.blows) {
            for (int judge = 0; judge < told.judges.size(); judge++) {
                if (blow[0] == round && blow[2] == corner && sees(judge, blow)) {
                    presses.add(new int[] {blow[1] + delays[judge], judge});
                }
            }
        }
        presses.sort((x, y) -> x[0] != y[0] ? x[0] - y[0] : x[1] - y[1]);
        int points = 0;
        while (!presses.isEmpty()) {
            int[] first = presses.get(0);
            Map<Integer, int[]> ofEach = new TreeMap<>();
            for (int[] press : presses) {
                if (press[0] - first[0] <= w) {
                    ofEach.putIfAbsent(press[1], press);
                }
            }
            if (ofEach.size() >= q) {
                points++;
                presses.removeAll(ofEach.values());
            } else {
                presses.remove(0);
            }
        }
        return points;
    }

    int buttons(int round, int q, int w, int what) {
        if (bad(round, -1, told.rounds - 1) || bad(q, 1, 8) || bad(w, 0, 9) || bad(what, 0, 3)) {
            return -1;
        }
        int all = 0;
        for (int r = 0; r < told.rounds; r++) {
            if (round == -1 || round == r) {
                int now = r;
                int zero = pressed(r, 0, q, w);
                int one = pressed(r, 1, q, w);
                int blows = (int) told.blows.stream().filter(b -> b[0] == now).count();
                all += new int[] {zero, one, Math.max(0, zero + one - blows), Math.max(0, blows - zero - one)}[what];
            }
        }
        return all;
    }

    int tell(int name, int night, int margin) {
        if (bad(name, 0, 5) || bad(night, 0, 23) || bad(margin, -21, 20)) {
            return -22;
        }
        Integer was = margins[name][night];
        margins[name][night] = margin == -21 ? null : Integer.valueOf(margin);
        return was == null ? -21 : was;
    }

    int same(int a, int b, int what) {
        if (bad(a, 0, 5) || bad(b, 0, 5) || a == b || bad(what, 0, 2)) {
            return -1;
        }
        int both = 0;
        int same = 0;
        Map<String, Integer> has = new HashMap<>();
        for (int night = 0; night < 24; night++) {
            if (margins[a][night] != null && margins[b][night] != null) {
                int one = Integer.signum(margins[a][night]);
                int other = Integer.signum(margins[b][night]);
                both++;
                same += one == other ? 1 : 0;
                has.merge("a" + one, 1, Integer::sum);
                has.merge("b" + other, 1, Integer::sum);
            }
        }
        if (what < 2) {
            return what == 0 ? same : both;
        }
        int chance = 0;
        for (int sign = -1; sign <= 1; sign++) {
            chance += has.getOrDefault("a" + sign, 0) * has.getOrDefault("b" + sign, 0);
        }
        return both == 0 ? -4 : chance / both;
    }

    private List<Integer> othersOf(int name, int night) {
        List<Integer> others = new ArrayList<>();
        for (int other = 0; other < 6; other++) {
            if (other != name && margins[other][night] != null) {
                others.add(margins[other][night]);
            }
        }
        Collections.sort(others);
        return others;
    }

    int lean(int name, int what) {
        if (bad(name, 0, 5) || bad(what, 0, 1)) {
            return -100001;
        }
        int sum = 0;
        int nights = 0;
        for (int night = 0; night < 24; night++) {
            List<Integer> others = othersOf(name, night);
            if (margins[name][night] != null && !others.isEmpty()) {
                sum += margins[name][night] - others.stream().mapToInt(m -> m).sum() / others.size();
                nights++;
            }
        }
        return what == 0 ? sum : nights;
    }

    int unlike(int name) {
        if (bad(name, 0, 5)) {
            return -1;
        }
        int far = -1;
        int best = -4;
        for (int night = 0; night < 24; night++) {
            List<Integer> others = othersOf(name, night);
            if (margins[name][night] != null && others.size() >= 2) {
                int middle = others.get(others.size() % 2 == 1 ? others.size() / 2 : others.size() / 2 - 1);
                int off = Math.abs(margins[name][night] - middle);
                if (off > far) {
                    far = off;
                    best = night;
                }
            }
        }
        return best;
    }

    int added(int rule, int corner, int one, int two, int three) {
        int[] sums = {one, two, three};
        if (bad(rule, 0, 2) || bad(corner, 0, 1) || Arrays.stream(sums).anyMatch(s -> bad(s, 0, 999))) {
            return -1;
        }
        for (int judge = 0; judge < 3; judge++) {
            if (points(rule, judge, corner) != sums[judge]) {
                return judge;
            }
        }
        return -4;
    }

    int tenths(int zero, int one, int v) {
        if (bad(zero, 0, 1) || bad(one, 0, 1) || bad(v, 0, 10)) {
            return -1;
        }
        int was = tenths[zero][one];
        tenths[zero][one] = v;
        return was;
    }

    private static int over(int m) {
        return m > 0 ? 1000000 : m == 0 ? 500000 : 0;
    }

    /** VALUE, what CORNER 0 does, what CORNER 1 does then. */
    private int[] best(int[][] values) {
        int[] best = null;
        for (int zero = 0; zero < 2; zero++) {
            int one = values[zero][1] < values[zero][0] ? 1 : 0;
            if (best == null || values[zero][one] > best[0]) {
                best = new int[] {values[zero][one], zero, one};
            }
        }
        return best;
    }

    private int[] openOf(int n, int m, Map<Integer, int[]> known) {
        if (n == 0) {
            return new int[] {over(m), 0, 0};
        }
        int key = n * 100 + m + 50;
        if (!known.containsKey(key)) {
            int up = openOf(n - 1, m + 1, known)[0];
            int down = openOf(n - 1, m - 1, known)[0];
            int[][] values = new int[2][2];
            for (int i = 0; i < 4; i++) {
                int t = tenths[i / 2][i % 2];
                values[i / 2][i % 2] = (t * up + (10 - t) * down) / 10;
            }
            known.put(key, best(values));
        }
        return known.get(key);
    }

    private boolean badGame(int n, int m, int what) {
        return bad(n, 1, 12) || bad(m, -12, 12) || bad(what, 0, 2);
    }

    int open(int n, int m, int what) {
        return badGame(n, m, what) ? -1 : openOf(n, m, new HashMap<>())[what];
    }

    private int fixedOf(int t, int n, int m, Map<Integer, Integer> known) {
        if (n == 0) {
            return over(m);
        }
        int key = n * 100 + m + 50;
        if (!known.containsKey(key)) {
            int up = fixedOf(t, n - 1, m + 1, known);
            int down = fixedOf(t, n - 1, m - 1, known);
            known.put(key, (t * up + (10 - t) * down) / 10);
        }
        return known.get(key);
    }

    int hidden(int n, int m, int what) {
        if (badGame(n, m, what)) {
            return -1;
        }
        int[][] values = new int[2][2];
        for (int i = 0; i < 4; i++) {
            values[i / 2][i % 2] = fixedOf(tenths[i / 2][i % 2], n, m, new HashMap<>());
        }
        return best(values)[what];
    }

    int keep() {
        if (kept.size() == 2) {
            return -3;
        }
        Integer[][] copy = new Integer[6][];
        for (int name = 0; name < 6; name++) {
            copy[name] = margins[name].clone();
        }
        kept.add(new Object[] {delays.clone(), copy, new int[][] {tenths[0].clone(), tenths[1].clone()}});
        return kept.size();
    }

    int back() {
        if (kept.isEmpty()) {
            return -2;
        }
        Object[] last = kept.remove(kept.size() - 1);
        delays = (int[]) last[0];
        margins = (Integer[][]) last[1];
        tenths = (int[][]) last[2];
        return kept.size();
    }

    int count(int what) {
        if (bad(what, 0, 5)) {
            return -1;
        }
        int toldNow = (int) Arrays.stream(margins).flatMap(Arrays::stream).filter(m -> m != null).count();
        int[] counts = {told.rounds, told.judges.size(), told.blows.size(), text.length(), toldNow, kept.size()};
        return counts[what];
    }
}
