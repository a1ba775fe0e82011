/** Promises 25 to 28: official, off, offs, lean. */
public final class OfficialTest {
    private static final Check CHECK = new Check("OfficialTest");

    public static void main(String[] args) {
        telling();
        offOfOnePoll();
        offOfAllPolls();
        leaning();
        leaningOfForty();
        CHECK.end();
    }

    private static void telling() {
        QuickCount x = new QuickCount();
        x.poll(0, 100);
        int[][] wrong = {{-1, 0}, {1, 0}, {0, -1}, {0, 4}, {Integer.MIN_VALUE, 0}, {0, Integer.MAX_VALUE}};
        for (int[] w : wrong) {
            CHECK.refused(x, "official " + w[0] + " " + w[1], x.official(w[0], w[1]), 1);
        }
        CHECK.refused(x, "missing", x.official(0, 2), 3);
        CHECK.refused(x, "too few, ahead of the numbers", Check.official(x, 0, -1), 4);
        int[][] numbers = {{-1, 0}, {0, -1}, {10000, 0}, {0, 10000}};
        for (int[] n : numbers) {
            CHECK.refused(x, "numbers that can't be", Check.official(x, 0, n), 1);
        }
        CHECK.done(x, "nothing was told yet", x.parties(3));
        CHECK.refused(x, "3 parties want 3 numbers", Check.official(x, 0, 1, 2), 4);
        CHECK.done(x, "above the roll, and more numbers than needed", Check.official(x, 0, 9999, 0, 5, -1));
    }

    private static void offOfOnePoll() {
        QuickCount x = new QuickCount();
        x.poll(0, 100);
        x.poll(0, 100);
        CHECK.refused(x, "both lack", x.off(0, 0, 5), 6);
        Check.official(x, 0, 10, 20);
        CHECK.refused(x, "the sheet lacks", x.off(0, 0, 5), 6);
        Check.sheet(x, 0, 3, 9, 21, 0, 31);
        CHECK.refused(x, "the sheet is not good", x.off(0, 0, 5), 6);
        Check.sheet(x, 0, 4, 7, 21, 0, 28);
        CHECK.refused(x, "the sheet came later", x.off(0, 0, 3), 6);
        CHECK.told(x, "above", x.off(0, 0, 4), 3);
        CHECK.told(x, "-1", x.off(0, 1, 4), -1);
        Check.official(x, 0, 7, 9999);
        CHECK.told(x, "anew", x.off(0, 0, 10000), 0);
        CHECK.told(x, "anew", x.off(0, 1, 4), 9978);
        Check.sheet(x, 1, 4, 1, 1, 0, 2);
        CHECK.refused(x, "official numbers lack", x.off(1, 0, 4), 6);
        Check.official(x, 0, 7, -1);
        CHECK.told(x, "refused numbers change nothing", x.off(0, 1, 4), 9978);
        int[][] wrong = {{-1, 0, 4}, {2, 0, 4}, {0, -1, 4}, {0, 2, 4}, {0, 0, -1}, {0, 0, 10001},
            {Integer.MAX_VALUE, 0, 4}, {0, Integer.MIN_VALUE, 4}};
        for (int[] w : wrong) {
            CHECK.refused(x, "off " + w[0] + " " + w[1] + " " + w[2], x.off(w[0], w[1], w[2]), 1);
        }
    }

    private static void offOfAllPolls() {
        QuickCount x = new QuickCount();
        CHECK.told(x, "no polls", x.offs(0, 0, 0), 0);
        CHECK.told(x, "no polls", x.offs(0, 2, 0), 0);
        for (int i = 0; i < 6; i++) {
            x.poll(i % 4, 100);
        }
        int[] offs = {3, 0, -7, 2, 50};
        for (int i = 0; i < 5; i++) {
            Check.official(x, i, 10 + offs[i], 10);
        }
        for (int i = 0; i < 4; i++) {
            Check.sheet(x, i, i, 10, 10, 0, 20);
        }
        Check.sheet(x, 5, 9, 10, 10, 0, 20);
        CHECK.told(x, "how many", x.offs(0, 0, 9), 3);
        CHECK.told(x, "above 0", x.offs(0, 1, 9), 2);
        CHECK.told(x, "together", x.offs(0, 2, 9), -2);
        CHECK.told(x, "another party", x.offs(1, 0, 9), 0);
        CHECK.told(x, "earlier", x.offs(0, 0, 2), 2);
        CHECK.told(x, "earlier", x.offs(0, 1, 2), 1);
        CHECK.told(x, "earlier", x.offs(0, 2, 2), -4);
        Check.official(x, 0, 14, 9);
        CHECK.told(x, "told anew, -1", x.offs(0, 2, 9), -1);
        CHECK.told(x, "another party", x.offs(1, 1, 9), 0);
        CHECK.told(x, "another party, -1", x.offs(1, 2, 9), -1);
        int[][] wrong = {{-1, 0, 0}, {2, 0, 0}, {0, -1, 0}, {0, 3, 0}, {0, 0, -1}, {0, 0, 10001},
            {Integer.MIN_VALUE, 0, 0}, {0, Integer.MAX_VALUE, 0}};
        for (int[] w : wrong) {
            CHECK.refused(x, "offs " + w[0] + " " + w[1] + " " + w[2], x.offs(w[0], w[1], w[2]), 1);
        }
    }

    private static void leaning() {
        leansTo(0, 0, 1, 1);
        leansTo(1, 1, 1, 2);
        leansTo(1, 0, 1, 1);
        leansTo(4, 2, 11, 16);
        leansTo(5, 3, 1, 2);
        leansTo(10, 9, 11, 1024);
        leansTo(10, 10, 1, 1024);
        leansTo(10, 0, 1, 1);
        QuickCount x = new QuickCount();
        x.poll(0, 10);
        x.draw(0, 1, 1);
        x.worst(0, 0, true);
        int[][] wrong = {{-1, 0}, {2, 0}, {0, -1}, {0, 10001}, {Integer.MAX_VALUE, 0}, {0, Integer.MIN_VALUE}};
        for (int[] w : wrong) {
            CHECK.refused(x, "lean " + w[0] + " " + w[1], x.lean(w[0], w[1]), 1);
        }
        CHECK.fraction(x, "refused calls keep it", 10, 1);
    }

    private static void leaningOfForty() {
        leansTo(40, 40, 1, 1L << 40);
        leansTo(40, 39, 41, 1L << 40);
        leansTo(40, 20, 309339539149L, 1L << 39);
        leansTo(39, 20, 1, 2);
    }

    /** So many POLLS OFF by PARTY 1, with so many above 0; one more is not OFF where there is room. */
    private static void leansTo(int many, int above, long top, long bottom) {
        QuickCount x = new QuickCount();
        int polls = Math.min(many + 1, 40);
        for (int i = 0; i < polls; i++) {
            x.poll(i % 4, 100);
        }
        Check.fill(x, 0, 20, 20, 0, 40);
        for (int i = 0; i < polls; i++) {
            x.sheet(i, 0, 8);
        }
        Check.fill(x, 1, 20, 20);
        for (int i = 0; i < polls; i++) {
            x.write(1, 1, i >= many ? 20 : i < above ? 21 + i : 19);
            x.official(i, 1);
        }
        String what = "lean of " + above + " of " + many;
        CHECK.told(x, what, x.lean(1, 8), 1);
        CHECK.fraction(x, what, top, bottom);
        CHECK.told(x, "no sheets yet", x.lean(1, 7), 1);
        CHECK.fraction(x, "no sheets yet", 1, 1);
    }
}
