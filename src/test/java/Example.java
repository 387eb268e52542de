public final class Example {
    public static void main(String[] args) {
        ThreeCards x = new ThreeCards();
        write(x, "r3;b0,10,0,5,0;b1,175,1,3,6;f2,0,4;k1,0;d2,1;h1,2;");
        write(x, "j0,1,1,20,3,0,5;j6,1,0,20,1,2,3;j3,2,1,22,1,1,4;");
        System.out.println(x.fault());                       // -4   NONE: no ITEM is at fault
        System.out.println(x.lay());                         // 3    JUDGES
        System.out.println(x.blow(1, 5));                    // 6    JUDGES 1 and 2 SEE it: bits 1 and 2
        System.out.println(x.lead(0, 0));                    // 5    JUDGE 0 has CORNER 0 ahead in ROUND 0
        System.out.println(x.card(0, 0));                    // 6    his CARD by TEN, in halves of points
        System.out.println(x.points(0, 0, 0));               // 60   so 30 to
        System.out.println(x.points(0, 0, 1));               // 54   27
        System.out.println(x.end(0, 0, 1, 2, 0));            // 0    CORNER 0 has it
        System.out.println(x.end(0, 0, 1, 2, 1));            // 2    split
        System.out.println(x.coins(0, 0, 1, 2, -1, 0));      // 7    CLOSE ROUNDS on the three CARDS
        System.out.println(x.coins(0, 0, 1, 2, 0, 0));       // 3    CORNER 0 has it three times
        System.out.println(x.coins(0, 0, 1, 2, 0, 1));       // 4    of four
        System.out.println(x.buttons(-1, 2, 1, 0));          // 1    two press within a second: a POINT
        System.out.println(x.tell(0, 23, -6));               // -21  nothing was told before
        System.out.println(x.tenths(1, 0, 8));               // 5    what it was at first
        System.out.println(x.open(12, 0, 0));                // 499999  VALUE: even, but for what is cut
        System.out.println(x.keep());                        // 1    KEPT
        System.out.println(x.card(4, 0));                    // -100001  BAD: there is no RULE 4
    }

    /** Puts letters behind THE TEXT, up to eight bytes a call: an object has 512 calls. */
    private static void write(ThreeCards x, String letters) {
        for (int from = 0; from < letters.length(); from += 8) {
            int behind = Math.min(letters.length(), from + 8);
            long v = 0;
            for (int i = from; i < behind; i++) {
                v = v << 8 | letters.charAt(i) & 255;
            }
            x.write(behind - from, v);
        }
    }
}
