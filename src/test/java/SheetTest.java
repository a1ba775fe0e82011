/** Promises 14 to 19: sheet, good, habit, slip, known, layer. */
public final class SheetTest {
    private static final Check CHECK = new Check("SheetTest");

    public static void main(String[] args) {
        sheets();
        sheetRefusals();
        tooManySheets();
        goodness();
        habits();
        slips();
        slipsOfFourParties();
        slipEdges();
        known();
        layers();
        CHECK.end();
    }

    private static void sheets() {
        QuickCount x = new QuickCount();
        x.poll(0, 100);
        Check.fill(x, 2, 1, 2, 3, 6, 99, -5);
        CHECK.told(x, "more numbers than needed", x.sheet(0, 2, 7), 0);
        CHECK.told(x, "good", x.good(0), 1);
        x.write(2, 0, 50);
        CHECK.told(x, "a sheet keeps its numbers", x.good(0), 1);
        CHECK.told(x, "the same minute again", x.sheet(0, 2, 7), 1);
        CHECK.told(x, "not good", x.good(1), 0);
        CHECK.told(x, "the last minute", x.sheet(0, 2, 10000), 2);
        QuickCount y = new QuickCount();
        y.poll(0, 200);
        y.tray(0, 0, 4);
        y.write(0, 0, 100);
        y.write(0, 3, 100);
        CHECK.told(y, "of 8 bits", y.sheet(0, 0, 0), 0);
        y.write(0, 3, 200);
        CHECK.refused(y, "200 of 8 bits is below 0", y.sheet(0, 0, 0), 1);
    }

    private static void sheetRefusals() {
        QuickCount x = new QuickCount();
        CHECK.refused(x, "no poll", x.sheet(0, 0, 0), 1);
        x.poll(0, 100);
        int[][] wrong = {{0, -1, 0}, {0, 4, 0}, {-1, 0, 0}, {1, 0, 0}, {0, 0, -1}, {0, 0, 10001},
            {Integer.MIN_VALUE, 0, 0}, {0, Integer.MAX_VALUE, 0}, {0, 0, Integer.MAX_VALUE}};
        for (int[] w : wrong) {
            CHECK.refused(x, "sheet " + w[0] + " " + w[1] + " " + w[2], x.sheet(w[0], w[1], w[2]), 1);
        }
        CHECK.refused(x, "missing", x.sheet(0, 3, 500), 3);
        CHECK.told(x, "a refused sheet moves no minute", Check.sheet(x, 0, 20, 1, 1, 0, 2), 0);
        CHECK.refused(x, "the minute is gone, ahead of missing", x.sheet(0, 3, 19), 2);
        CHECK.refused(x, "no minute, ahead of gone", x.sheet(0, 3, -1), 1);
        CHECK.refused(x, "too few", Check.sheet(x, 0, 20, 1, 1, -1), 4);
        int[][] numbers = {{-1, 1, 0, 2}, {1, 10000, 0, 2}, {1, 1, -1, 2}, {1, 1, 0, 10000}, {0, 0, 0, -1}};
        for (int[] n : numbers) {
            CHECK.refused(x, "numbers that can't be", Check.sheet(x, 0, 30, n), 1);
        }
        CHECK.told(x, "still minute 20", Check.sheet(x, 0, 20, 9999, 9999, 9999, 9999), 1);
        QuickCount y = new QuickCount();
        y.parties(4);
        y.poll(0, 100);
        CHECK.refused(y, "4 parties want 6 numbers", Check.sheet(y, 0, 0, 1, 1, 1, 1, 0), 4);
        CHECK.told(y, "6 numbers", Check.sheet(y, 0, 0, 1, 1, 1, 1, 0, 4), 0);
    }

    private static void tooManySheets() {
        QuickCount x = new QuickCount();
        x.poll(0, 100);
        Check.fill(x, 0, 1, 1, 0, 2);
        for (int i = 0; i < 120; i++) {
            CHECK.told(x, "sheet", x.sheet(0, 0, i), i);
        }
        CHECK.refused(x, "one too many", x.sheet(0, 0, 200), 7);
        CHECK.refused(x, "the minute is asked first", x.sheet(0, 0, 118), 2);
        CHECK.refused(x, "missing is asked first", x.sheet(0, 1, 200), 3);
        x.write(0, 0, -1);
        CHECK.refused(x, "numbers are asked first", x.sheet(0, 0, 200), 1);
        CHECK.told(x, "the last one", x.known(0, 10000), 119);
        CHECK.told(x, "one in the middle", x.known(0, 60), 60);
    }

    private static void goodness() {
        QuickCount x = new QuickCount();
        x.poll(0, 10);
        CHECK.told(x, "all 0", x.good(Check.sheet(x, 0, 0, 0, 0, 0, 0)), 1);
        CHECK.told(x, "all at the roll", x.good(Check.sheet(x, 0, 0, 5, 4, 1, 10)), 1);
        CHECK.told(x, "all above the roll", x.good(Check.sheet(x, 0, 0, 5, 4, 2, 11)), 0);
        CHECK.told(x, "too few votes", x.good(Check.sheet(x, 0, 0, 5, 4, 0, 10)), 0);
        CHECK.told(x, "too many votes", x.good(Check.sheet(x, 0, 0, 5, 4, 2, 10)), 0);
        int[] wrong = {-1, 5, Integer.MIN_VALUE, Integer.MAX_VALUE};
        for (int sheet : wrong) {
            CHECK.refused(x, "good " + sheet, x.good(sheet), 1);
        }
    }

    private static void habits() {
        QuickCount x = new QuickCount();
        int[][] wrong = {{-1, 0}, {0, -1}, {10, 0}, {0, 10}, {4, 4}, {Integer.MIN_VALUE, 0}, {0, Integer.MAX_VALUE}};
        for (int[] w : wrong) {
            CHECK.refused(x, "habit " + w[0] + " " + w[1], x.habit(w[0], w[1], true), 1);
            CHECK.refused(x, "no habit " + w[0] + " " + w[1], x.habit(w[0], w[1], false), 1);
        }
        x.poll(0, 100);
        Check.sheet(x, 0, 0, 9, 0, 0, 4);
        Check.sheet(x, 0, 0, 4, 0, 0, 9);
        CHECK.done(x, "habit", x.habit(4, 9, true));
        CHECK.done(x, "told twice", x.habit(9, 4, true));
        CHECK.told(x, "one way", x.slip(0, 0), 4);
        CHECK.told(x, "and the other", x.slip(1, 0), 9);
        CHECK.told(x, "all too", x.slip(0, 1), 309);
        CHECK.done(x, "no more", x.habit(4, 9, false));
        CHECK.refused(x, "no slip", x.slip(0, 0), 6);
        CHECK.refused(x, "no slip", x.slip(1, 0), 6);
        CHECK.done(x, "none that is none", x.habit(4, 9, false));
        for (int a = 0; a < 10; a++) {
            for (int b = 0; b < 10; b++) {
                CHECK.due("any two figures but like ones", x.habit(a, b, true), a != b);
            }
        }
    }

    private static void slips() {
        QuickCount x = new QuickCount();
        x.poll(0, 2000);
        Check.sheet(x, 0, 0, 111, 11, 1, 124);
        CHECK.refused(x, "no habit", x.slip(0, 0), 6);
        x.habit(1, 2, true);
        CHECK.told(x, "first", x.slip(0, 0), 2);
        CHECK.told(x, "second", x.slip(0, 1), 102);
        CHECK.told(x, "third", x.slip(0, 2), 202);
        CHECK.refused(x, "no fourth", x.slip(0, 3), 6);
        x.habit(3, 4, true);
        CHECK.told(x, "of all", x.slip(0, 3), 303);
        CHECK.refused(x, "no fifth", x.slip(0, 4), 6);
        CHECK.refused(x, "k far", x.slip(0, Integer.MAX_VALUE), 6);
        CHECK.refused(x, "k below 0", x.slip(0, -1), 6);
        CHECK.refused(x, "k far below 0", x.slip(0, Integer.MIN_VALUE), 6);
        int[] wrong = {-1, 1, Integer.MIN_VALUE, Integer.MAX_VALUE};
        for (int sheet : wrong) {
            CHECK.refused(x, "slip " + sheet, x.slip(sheet, -1), 1);
        }
        Check.sheet(x, 0, 0, 11, 11, 1, 23);
        CHECK.refused(x, "a good one has none", x.slip(1, 0), 6);
        Check.sheet(x, 0, 0, 1121, 0, 0, 1131);
        CHECK.refused(x, "2 is no habit of 3", x.slip(2, 0), 6);
        x.habit(2, 3, true);
        CHECK.told(x, "the second place", x.slip(2, 0), 13);
        CHECK.told(x, "the second place of all", x.slip(2, 1), 312);
        Check.sheet(x, 0, 0, 1121, 0, 0, 121);
        x.habit(0, 1, true);
        CHECK.told(x, "a first figure of four becomes 0", x.slip(3, 0), 30);
        CHECK.refused(x, "no figure ahead of the first one", x.slip(3, 1), 6);
    }

    private static void slipsOfFourParties() {
        QuickCount x = new QuickCount();
        x.parties(4);
        x.poll(0, 2000);
        x.habit(5, 6, true);
        Check.sheet(x, 0, 0, 5, 15, 25, 35, 5, 86);
        for (int number = 0; number < 5; number++) {
            CHECK.told(x, "number " + number, x.slip(0, number), 100 * number + 6);
        }
        Check.sheet(x, 0, 0, 1, 1, 1, 1, 1, 5);
        CHECK.told(x, "all", x.slip(0, 5), 505);
        CHECK.refused(x, "no more", x.slip(0, 6), 6);
    }

    private static void slipEdges() {
        QuickCount x = new QuickCount();
        x.poll(0, 100);
        x.habit(0, 8, true);
        Check.sheet(x, 0, 0, 0, 10, 0, 18);
        CHECK.told(x, "0 is the figure 0", x.slip(0, 0), 8);
        CHECK.told(x, "the last figure of 10", x.slip(0, 1), 108);
        CHECK.told(x, "void", x.slip(0, 2), 208);
        CHECK.told(x, "all", x.slip(0, 3), 300);
        CHECK.refused(x, "no more", x.slip(0, 4), 6);
        Check.sheet(x, 0, 0, 80, 21, 0, 181);
        x.habit(0, 1, true);
        CHECK.refused(x, "101 would be above the roll", x.slip(1, 0), 6);
        Check.sheet(x, 0, 0, 80, 20, 0, 108);
        CHECK.told(x, "100 is at the roll", x.slip(2, 0), 300);
        CHECK.refused(x, "the votes alone leave all above it", x.slip(2, 1), 6);
        Check.sheet(x, 0, 0, 90, 90, 0, 180);
        x.habit(9, 5, true);
        CHECK.refused(x, "above the roll, votes right: no one figure", x.slip(3, 0), 6);
        Check.sheet(x, 0, 0, 90, 10, 9, 100);
        CHECK.refused(x, "9 is 5 by habit, not 0", x.slip(4, 0), 6);
        x.habit(9, 0, true);
        CHECK.told(x, "votes mended with all at the roll", x.slip(4, 0), 200);
        Check.sheet(x, 0, 0, 10, 20, 0, 20);
        CHECK.told(x, "the first figure of 10", x.slip(5, 0), 10);
    }

    private static void known() {
        QuickCount x = new QuickCount();
        x.poll(0, 100);
        x.poll(0, 100);
        Check.sheet(x, 0, 5, 1, 1, 0, 2);
        Check.sheet(x, 1, 5, 1, 1, 0, 2);
        Check.sheet(x, 0, 5, 1, 2, 0, 3);
        Check.sheet(x, 0, 6, 1, 2, 0, 4);
        Check.sheet(x, 0, 9, 1, 2, 0, 3);
        CHECK.refused(x, "ahead of all", x.known(0, 4), 6);
        CHECK.refused(x, "minute 0", x.known(0, 0), 6);
        CHECK.told(x, "of one minute the later number", x.known(0, 5), 2);
        CHECK.told(x, "one that isn't good is not known", x.known(0, 6), 2);
        CHECK.told(x, "up to", x.known(0, 8), 2);
        CHECK.told(x, "at it", x.known(0, 9), 4);
        CHECK.told(x, "the last minute", x.known(0, 10000), 4);
        CHECK.told(x, "another poll", x.known(1, 10000), 1);
        QuickCount y = new QuickCount();
        y.poll(0, 100);
        Check.sheet(y, 0, 0, 1, 1, 0, 2);
        CHECK.told(y, "sheet 0 at minute 0", y.known(0, 0), 0);
        int[][] wrong = {{-1, 5}, {2, 5}, {0, -1}, {0, 10001}, {Integer.MAX_VALUE, 5}, {0, Integer.MIN_VALUE}};
        for (int[] w : wrong) {
            CHECK.refused(x, "known " + w[0] + " " + w[1], x.known(w[0], w[1]), 1);
        }
    }

    private static void layers() {
        QuickCount x = new QuickCount();
        for (int i = 0; i < 4; i++) {
            x.poll(1, 100);
        }
        CHECK.refused(x, "no draw", x.layer(1, 0, 0), 6);
        x.draw(1, 2, 1);
        x.poll(1, 100);
        CHECK.told(x, "drawn", x.layer(1, 0, 0), 2);
        CHECK.told(x, "known", x.layer(1, 1, 10000), 0);
        CHECK.told(x, "had", x.layer(1, 2, 0), 4);
        for (int i = 0; i < 5; i++) {
            Check.sheet(x, i, 10 + i, 1, 1, 0, 2);
        }
        CHECK.told(x, "only drawn ones count", x.layer(1, 1, 10000), 2);
        int first = x.told(0, 2) == 1 ? 0 : x.told(1, 2) == 1 ? 1 : 2;
        CHECK.told(x, "ahead of the first", x.layer(1, 1, 9 + first), 0);
        CHECK.told(x, "at the first", x.layer(1, 1, 10 + first), 1);
        CHECK.refused(x, "another layer", x.layer(2, 1, 0), 6);
        int[][] wrong = {{-1, 0, 0}, {4, 0, 0}, {1, -1, 0}, {1, 3, 0}, {1, 0, -1}, {1, 2, 10001},
            {2, 3, 0}, {Integer.MIN_VALUE, 0, 0}, {1, Integer.MAX_VALUE, 0}};
        for (int[] w : wrong) {
            CHECK.refused(x, "layer " + w[0] + " " + w[1] + " " + w[2], x.layer(w[0], w[1], w[2]), 1);
        }
    }
}
