/** Compares answers with those that are due, and ends the program with exit code 1 if one was not. */
final class Due {
    private int checks = 0;
    private int wrong = 0;

    void is(String call, long got, long want) {
        checks++;
        if (got != want) {
            wrong++;
            System.out.println(call + " answered " + got + ", due is " + want);
        }
    }

    void isTrue(String what, boolean holds) {
        is(what, holds ? 1 : 0, 1);
    }

    int checks() {
        return checks;
    }

    void close() {
        System.out.println(checks + " checks, " + wrong + " wrong");
        if (wrong != 0 || checks == 0) {
            System.exit(1);
        }
    }

    /** Puts letters behind THE TEXT; answers how long it is, or the first answer below 0. */
    static int put(ThreeCards cards, String letters) {
        int answer = cards.count(3);
        for (int from = 0; from < letters.length(); from += 8) {
            int behind = Math.min(letters.length(), from + 8);
            long v = 0;
            for (int i = from; i < behind; i++) {
                v = v << 8 | letters.charAt(i) & 255;
            }
            answer = cards.write(behind - from, v);
            if (answer < 0) {
                return answer;
            }
        }
        return answer;
    }

    /** A new object with the letters LAID; they must be without FAULT. */
    static ThreeCards laid(String letters) {
        ThreeCards cards = new ThreeCards();
        if (put(cards, letters) != letters.length() || cards.lay() < 3) {
            throw new IllegalArgumentException("cannot be laid: " + letters);
        }
        return cards;
    }
}
