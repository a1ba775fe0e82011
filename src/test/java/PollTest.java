/** Promises 9 to 13: parties, poll, draw, told, chance. */
public final class PollTest {
    private static final Check CHECK = new Check("PollTest");

    public static void main(String[] args) {
        parties();
        polls();
        drawing();
        drawingAnew();
        drawRefused();
        chances();
        CHECK.end();
    }

    private static void parties() {
        QuickCount x = new QuickCount();
        int[] wrong = {1, 5, 0, -1, Integer.MAX_VALUE, Integer.MIN_VALUE};
        for (int many : wrong) {
            CHECK.refused(x, "parties " + many, x.parties(many), 1);
        }
        CHECK.refused(x, "still 2", x.offs(2, 0, 0), 1);
        for (int many = 4; many >= 2; many--) {
            CHECK.done(x, "parties", x.parties(many));
            CHECK.told(x, "the last party", x.offs(many - 1, 0, 0), 0);
            CHECK.refused(x, "one more", x.offs(many, 0, 0), 1);
        }
        x.poll(0, 100);
        x.draw(0, 1, 1);
        CHECK.done(x, "polls and draws do not hinder", x.parties(3));
        Check.sheet(x, 0, 1, 1, 1, 1, 1, 9);
        CHECK.refused(x, "a sheet, even one that is not good, hinders", x.parties(3), 7);
        CHECK.refused(x, "a wrong number is asked first", x.parties(5), 1);
        QuickCount y = new QuickCount();
        y.poll(0, 100);
        Check.official(y, 0, 1, 2);
        CHECK.refused(y, "official numbers hinder", y.parties(4), 7);
    }

    private static void polls() {
        QuickCount x = new QuickCount();
        int[][] wrong = {{-1, 1}, {4, 1}, {0, 0}, {0, 2001}, {0, -1}, {Integer.MAX_VALUE, 5}, {0, Integer.MIN_VALUE}};
        for (int[] w : wrong) {
            CHECK.refused(x, "poll " + w[0] + " " + w[1], x.poll(w[0], w[1]), 1);
        }
        for (int i = 0; i < 40; i++) {
            CHECK.told(x, "poll", x.poll(i % 4, i == 0 ? 1 : i * 50 + 50), i);
        }
        CHECK.refused(x, "one too many", x.poll(0, 1), 7);
        CHECK.refused(x, "a wrong number is asked first", x.poll(0, 0), 1);
        CHECK.told(x, "layer", x.told(39, 0), 3);
        CHECK.told(x, "roll", x.told(39, 1), 2000);
        CHECK.told(x, "roll", x.told(0, 1), 1);
        CHECK.told(x, "drawn", x.told(0, 2), 0);
        int[][] wrongTold = {{-1, 0}, {40, 0}, {0, -1}, {0, 3}, {Integer.MIN_VALUE, 1}, {0, Integer.MAX_VALUE}};
        for (int[] w : wrongTold) {
            CHECK.refused(x, "told " + w[0] + " " + w[1], x.told(w[0], w[1]), 1);
        }
    }

    /** LOTS from SEED 1 are 16838, 5758, 10113, 17515, 31051, 5627, 23010, 7419. */
    private static void drawing() {
        QuickCount x = new QuickCount();
        for (int i = 0; i < 10; i++) {
            x.poll(2, 100);
            x.poll(1, 100);
        }
        CHECK.done(x, "draw", x.draw(2, 3, 1));
        String want = "0011000100";
        for (int i = 0; i < 10; i++) {
            CHECK.told(x, "drawn " + i, x.told(2 * i, 2), want.charAt(i) - '0');
            CHECK.told(x, "not of the layer", x.told(2 * i + 1, 2), 0);
        }
        CHECK.done(x, "the highest seed", x.draw(1, 5, 2147483647));
        drawnOf(x, 1, 5);
        CHECK.done(x, "seed 0", x.draw(1, 9, 0));
        drawnOf(x, 1, 9);
        CHECK.done(x, "all", x.draw(1, 10, 99));
        drawnOf(x, 1, 10);
        drawnOf(x, 2, 3);
    }

    private static void drawnOf(QuickCount x, int layer, int want) {
        int many = 0;
        for (int i = 0; x.told(i, 0) != -1; i++) {
            many += x.told(i, 0) == layer ? x.told(i, 2) : 0;
        }
        CHECK.due("drawn of layer " + layer, many, want);
    }

    private static void drawingAnew() {
        QuickCount x = new QuickCount();
        x.poll(0, 10);
        x.draw(0, 1, 5);
        x.poll(0, 20);
        CHECK.told(x, "came later", x.told(1, 2), 0);
        CHECK.told(x, "had", x.layer(0, 2, 0), 1);
        CHECK.done(x, "anew", x.draw(0, 2, 5));
        CHECK.told(x, "drawn now", x.told(1, 2), 1);
        CHECK.told(x, "had", x.layer(0, 2, 0), 2);
        CHECK.done(x, "anew, one", x.draw(0, 1, 1));
        CHECK.told(x, "16838 rest 2 is 0", x.told(0, 2), 1);
        CHECK.told(x, "no more drawn", x.told(1, 2), 0);
    }

    private static void drawRefused() {
        QuickCount x = new QuickCount();
        x.poll(0, 10);
        x.poll(0, 10);
        x.poll(1, 10);
        x.draw(0, 1, 1);
        int[][] wrong = {{-1, 1, 1}, {4, 1, 1}, {0, 0, 1}, {0, -1, 1}, {0, 3, 1}, {2, 1, 1}, {0, 1, -1},
            {Integer.MAX_VALUE, 1, 1}, {Integer.MIN_VALUE, 1, 1}, {0, Integer.MAX_VALUE, 1}, {0, 1, Integer.MIN_VALUE}};
        for (int[] w : wrong) {
            CHECK.refused(x, "draw " + w[0] + " " + w[1] + " " + w[2], x.draw(w[0], w[1], w[2]), 1);
        }
        CHECK.told(x, "the old draw stands", x.layer(0, 0, 0), 1);
        CHECK.told(x, "the old draw stands", x.told(0, 2), 1);
    }

    private static void chances() {
        QuickCount x = new QuickCount();
        for (int i = 0; i < 8; i++) {
            x.poll(3, 100);
        }
        CHECK.told(x, "no draw", x.chance(0), 0);
        CHECK.fraction(x, "no draw", 0, 1);
        x.draw(3, 6, 11);
        x.poll(3, 100);
        for (int i = 0; i < 8; i++) {
            CHECK.told(x, "drawn or not", x.chance(i), 1);
            CHECK.fraction(x, "drawn or not", 3, 4);
        }
        CHECK.told(x, "came later", x.chance(8), 0);
        CHECK.fraction(x, "came later", 0, 1);
        x.chance(1);
        int[] wrong = {-1, 9, Integer.MIN_VALUE, Integer.MAX_VALUE};
        for (int poll : wrong) {
            CHECK.refused(x, "chance " + poll, x.chance(poll), 1);
        }
        CHECK.fraction(x, "as it was", 3, 4);
        x.draw(3, 9, 11);
        x.chance(8);
        CHECK.fraction(x, "anew", 1, 1);
    }
}
