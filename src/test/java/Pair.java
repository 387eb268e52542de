/** A ThreeCards and a Plain with the same calls behind them: what x alone is asked, y never hears of. */
final class Pair {
    static final String JUDGE = "j0,1,0,20,1,0,0;";
    static final String THREE = JUDGE.repeat(3);
    /** The fewest ROUNDS, JUDGES and, but for none, BLOWS. */
    static final String FEWEST = "r1;b0,0,0,1,0;" + THREE;
    /** The most JUDGES, and as many BLOWS as 500 bytes hold beside them. */
    static final String MOST_JUDGES = JUDGE.repeat(7) + "j6,9,9,40,9,9,99;" + blows(33) + "r12;r12;";
    /** The most BLOWS, and as many JUDGES as 500 bytes hold beside them. */
    static final String MOST_BLOWS = THREE + blows(40) + "r12;r12;r12;";

    final ThreeCards x;
    final Plain y;

    Pair() {
        this(new ThreeCards(), new Plain());
    }

    Pair(ThreeCards x, Plain y) {
        this.x = x;
        this.y = y;
    }

    /** The letters LAID in both; they must be without FAULT. */
    static Pair laid(String letters) {
        Pair pair = new Pair();
        pair.put(letters);
        if (pair.x.lay() < 3 || pair.y.lay() < 3) {
            throw new IllegalArgumentException("cannot be laid: " + letters);
        }
        return pair;
    }

    void put(String letters) {
        for (int from = 0; from < letters.length(); from += 8) {
            int behind = Math.min(letters.length(), from + 8);
            long v = 0;
            for (int i = from; i < behind; i++) {
                v = v << 8 | letters.charAt(i) & 255;
            }
            x.write(behind - from, v);
            y.write(behind - from, v);
        }
    }

    /** DELAYS, TOLD cards and TENTHS, KEPT so often, each time others, and others again behind that. */
    Pair noted(int kept) {
        for (int i = 0; i <= kept; i++) {
            note(i);
            if (i < kept) {
                x.keep();
                y.keep();
            }
        }
        return this;
    }

    private void note(int i) {
        for (int judge = 0; judge < 3; judge++) {
            x.delay(judge, judge + i + 1);
            y.delay(judge, judge + i + 1);
        }
        for (int name = 0; name < 4; name++) {
            x.tell(name, 5 * i + name / 2, 7 * name - 10 + i);
            y.tell(name, 5 * i + name / 2, 7 * name - 10 + i);
        }
        x.tenths(i % 2, 1, 7 + i);
        y.tenths(i % 2, 1, 7 + i);
    }

    /** BLOWS of the first ten ROUNDS in turn, each told in one figure. */
    private static String blows(int many) {
        StringBuilder text = new StringBuilder();
        for (int k = 0; k < many; k++) {
            text.append('b').append(k % 10).append(',').append(k % 7).append(',').append(k / 3 % 2).append(',')
                .append(k % 9 + 1).append(',').append(k * 3 % 10).append(';');
        }
        return text.toString();
    }
}
