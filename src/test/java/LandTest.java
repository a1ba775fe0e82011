/** Promises 20 to 24: sum, doubt, margin, worst, ahead. */
public final class LandTest {
    private static final Check CHECK = new Check("LandTest");

    public static void main(String[] args) {
        open();
        wrongNumbers();
        oneLayer();
        twoLayers();
        lowAndHigh();
        edgesOfMargin();
        marginJustAboveASquare();
        edgeOfAhead();
        edgeOfSure();
        largest();
        CHECK.end();
    }

    private static void open() {
        QuickCount x = new QuickCount();
        allOpen(x, "no poll", true, true, true);
        x.poll(0, 100);
        x.poll(0, 100);
        x.poll(1, 100);
        Check.sheet(x, 0, 1, 5, 3, 0, 8);
        allOpen(x, "known, but no draw", true, true, true);
        x.draw(0, 2, 1);
        allOpen(x, "one known", false, true, false);
        Check.sheet(x, 1, 1, 5, 3, 0, 8);
        allOpen(x, "two known", false, false, false);
        x.draw(1, 1, 1);
        allOpen(x, "a layer of which none is known", true, true, false);
        Check.sheet(x, 2, 1, 5, 3, 0, 8);
        allOpen(x, "a layer with all known, but one only", false, true, false);
        x.sum(0, -1, 1);
        CHECK.fraction(x, "two of two, and one of one", 15, 1);
        CHECK.refused(x, "b is above a, but doubt is open", x.ahead(1, 0, 1), 5);
    }

    private static void allOpen(QuickCount x, String when, boolean sum, boolean doubt, boolean worst) {
        x.sum(0, 1, 1);
        CHECK.due(when + ", sum", x.status(), sum ? 5 : 0);
        x.doubt(0, 1, 1);
        CHECK.due(when + ", doubt", x.status(), doubt ? 5 : 0);
        CHECK.due(when + ", margin", x.margin(0, 1, 1), doubt ? -1 : 0);
        CHECK.due(when + ", margin", x.status(), doubt ? 5 : 0);
        CHECK.due(when + ", ahead", x.ahead(0, 1, 1), doubt ? -1 : 2);
        CHECK.due(when + ", ahead", x.status(), doubt ? 5 : 0);
        x.worst(0, 1, true);
        CHECK.due(when + ", worst", x.status(), worst ? 5 : 0);
    }

    private static void wrongNumbers() {
        QuickCount x = new QuickCount();
        x.parties(3);
        int[][] wrong = {{-1, 0, 0}, {3, 0, 0}, {0, 3, 0}, {0, -2, 0}, {1, 1, 0}, {-1, -1, 0}, {0, 1, -1}, {0, 1, 10001},
            {Integer.MAX_VALUE, 0, 0}, {0, Integer.MIN_VALUE, 0}, {0, 1, Integer.MIN_VALUE}};
        for (int[] w : wrong) {
            String what = " " + w[0] + " " + w[1] + " " + w[2];
            CHECK.refused(x, "sum" + what, x.sum(w[0], w[1], w[2]), 1);
            CHECK.refused(x, "doubt" + what, x.doubt(w[0], w[1], w[2]), 1);
            CHECK.refused(x, "margin" + what, x.margin(w[0], w[1], w[2]), 1);
            CHECK.refused(x, "ahead" + what, x.ahead(w[0], w[1], w[2]), 1);
        }
        CHECK.refused(x, "sum of one is open", x.sum(2, -1, 0), 5);
        CHECK.refused(x, "ahead of none", x.ahead(2, -1, 0), 1);
        int[][] wrongWorst = {{-1, 0}, {3, 0}, {0, -1}, {0, 10001}, {Integer.MIN_VALUE, 0}, {0, Integer.MAX_VALUE}};
        for (int[] w : wrongWorst) {
            CHECK.refused(x, "worst " + w[0] + " " + w[1], x.worst(w[0], w[1], false), 1);
            CHECK.refused(x, "worst " + w[0] + " " + w[1], x.worst(w[0], w[1], true), 1);
        }
    }

    /** 5 POLLS, all DRAWN, of which 3 are KNOWN, with 1, 2, 4 votes of PARTY 0 and 3, 2, 6 of PARTY 1. */
    private static void oneLayer() {
        QuickCount x = new QuickCount();
        for (int i = 0; i < 5; i++) {
            x.poll(0, 20);
        }
        x.draw(0, 5, 1);
        Check.sheet(x, 0, 1, 1, 3, 0, 4);
        Check.sheet(x, 1, 2, 2, 2, 0, 4);
        Check.sheet(x, 4, 3, 4, 6, 0, 10);
        CHECK.told(x, "sum", x.sum(0, -1, 3), 1);
        CHECK.fraction(x, "5 by 3 times 7", 35, 3);
        CHECK.told(x, "below 0", x.sum(0, 1, 3), -1);
        CHECK.fraction(x, "5 by 3 times -4", -20, 3);
        CHECK.told(x, "spread 7 by 3", x.doubt(0, -1, 3), 1);
        CHECK.fraction(x, "5 times 2 by 3, times 7 by 3", 70, 9);
        CHECK.told(x, "4 times it is 31.1", x.margin(0, -1, 3), 6);
        CHECK.told(x, "differences -2, 0, -2", x.doubt(0, 1, 3), 1);
        CHECK.fraction(x, "10 by 3, times 4 by 3", 40, 9);
        CHECK.told(x, "an earlier minute", x.sum(1, -1, 2), 1);
        CHECK.fraction(x, "5 by 2 times 5", 25, 2);
        CHECK.told(x, "at 0", x.sum(0, 1, 10000), -1);
        CHECK.told(x, "margin leaves the fraction", x.margin(1, 0, 3), 5);
        CHECK.fraction(x, "as told by sum", -20, 3);
        Check.sheet(x, 0, 4, 6, 2, 0, 8);
        CHECK.told(x, "a later sheet takes its place", x.sum(0, 1, 4), 1);
        CHECK.fraction(x, "5 by 3 times 2", 10, 3);
        Check.sheet(x, 0, 5, 3, 1, 0, 4);
        CHECK.told(x, "at 0", x.sum(0, 1, 5), 0);
        CHECK.fraction(x, "at 0", 0, 1);
        CHECK.told(x, "a poll that comes later", x.poll(0, 20), 5);
        Check.sheet(x, 5, 5, 20, 0, 0, 20);
        CHECK.told(x, "does not count", x.sum(0, 1, 5), 0);
    }

    /** LAYER 0: 3 POLLS with 2 and 5 votes KNOWN; LAYER 3: 4 POLLS with 1, 1 and 2. */
    private static void twoLayers() {
        QuickCount x = new QuickCount();
        for (int i = 0; i < 7; i++) {
            x.poll(i < 3 ? 0 : 3, 50);
        }
        x.draw(0, 3, 8);
        x.draw(3, 4, 9);
        int[] votes = {2, 5, 1, 1, 2};
        int[] at = {0, 2, 3, 4, 6};
        for (int i = 0; i < 5; i++) {
            Check.sheet(x, at[i], 1, votes[i], 0, 1, votes[i] + 1);
        }
        CHECK.told(x, "sum", x.sum(0, -1, 1), 1);
        CHECK.fraction(x, "3 by 2 times 7 and 4 by 3 times 4", 95, 6);
        CHECK.told(x, "doubt", x.doubt(0, -1, 1), 1);
        CHECK.fraction(x, "3 by 2 times 4.5 and 4 by 3 times 1 by 3", 259, 36);
        CHECK.told(x, "28.8", x.margin(0, -1, 1), 6);
        CHECK.told(x, "no votes", x.sum(1, -1, 1), 0);
        CHECK.told(x, "no spread", x.doubt(1, -1, 1), 0);
        CHECK.fraction(x, "no spread", 0, 1);
        CHECK.told(x, "ahead, but unsure", x.ahead(0, 1, 1), 1);
        CHECK.told(x, "not ahead", x.ahead(1, 0, 1), 0);
    }

    private static void lowAndHigh() {
        QuickCount x = new QuickCount();
        for (int i = 0; i < 3; i++) {
            x.poll(0, 100);
        }
        x.draw(0, 2, 1);
        int one = x.told(0, 2) == 1 ? 0 : 1;
        int notDrawn = x.told(0, 2) == 0 ? 0 : x.told(1, 2) == 0 ? 1 : 2;
        Check.sheet(x, one, 4, 7, 2, 0, 9);
        Check.sheet(x, notDrawn, 4, 50, 50, 0, 100);
        CHECK.told(x, "low", x.worst(0, 4, false), 1);
        CHECK.fraction(x, "3 by 2 times 7", 21, 2);
        CHECK.told(x, "high", x.worst(0, 4, true), 1);
        CHECK.fraction(x, "3 by 2 times 107", 321, 2);
        CHECK.told(x, "low of none known", x.worst(0, 3, false), 0);
        CHECK.fraction(x, "none known", 0, 1);
        CHECK.told(x, "high of none known", x.worst(1, 3, true), 1);
        CHECK.fraction(x, "3 by 2 times 200", 300, 1);
    }

    private static void edgesOfMargin() {
        CHECK.due("4 times doubt is 24 by 25", marginOf(6, 0, 0, 0, 0, 1), 1);
        CHECK.due("4 times doubt is 5 by 4", marginOf(5, 0, 0, 0, 1), 2);
        CHECK.due("4 times doubt is 16", marginOf(4, 0, 0, 3), 4);
        CHECK.due("4 times doubt is 12", marginOf(3, 0, 2), 4);
        CHECK.due("4 times doubt is 0", marginOf(3, 2, 2), 0);
    }

    /** DOUBT 3 by 2 times 2, and 10 by 3: 4 times it is 25 and 1 by 3. */
    private static void marginJustAboveASquare() {
        QuickCount x = new QuickCount();
        for (int i = 0; i < 8; i++) {
            x.poll(i < 3 ? 0 : 1, 10);
        }
        x.draw(0, 3, 1);
        x.draw(1, 5, 1);
        int[] votes = {0, 2, -1, 0, 1, 2};
        for (int i = 0; i < votes.length; i++) {
            if (votes[i] >= 0) {
                Check.sheet(x, i, 1, votes[i], 0, 0, votes[i]);
            }
        }
        CHECK.told(x, "doubt", x.doubt(0, -1, 1), 1);
        CHECK.fraction(x, "doubt", 19, 3);
        CHECK.told(x, "margin", x.margin(0, -1, 1), 6);
    }

    /** All of so many POLLS DRAWN, the first ones KNOWN, with these votes of PARTY 1. */
    private static int marginOf(int many, int... votes) {
        QuickCount x = new QuickCount();
        for (int i = 0; i < many; i++) {
            x.poll(0, 10);
        }
        x.draw(0, many, 1);
        for (int i = 0; i < votes.length; i++) {
            Check.sheet(x, i, 1, 0, votes[i], 0, votes[i]);
        }
        return x.margin(1, -1, 1);
    }

    /** With 3 of 4 KNOWN, the square of SUM is above 4 times DOUBT if their square is above their squares. */
    private static void edgeOfAhead() {
        CHECK.due("square above 4 times doubt", aheadOf(4, 1, 1, 0), 1);
        CHECK.due("square at 4 times doubt", aheadOf(4, 1, 0, 0), 0);
        CHECK.due("square below 4 times doubt", aheadOf(4, 2, 0, -1), 0);
        CHECK.due("sum below 0, its square above", aheadOf(4, -1, -1, 0), 0);
        CHECK.due("sum at 0, no doubt", aheadOf(3, 2, 0, -2), 0);
        CHECK.due("sum above 0, no doubt", aheadOf(2, 2, -1), 2);
        CHECK.due("2 KNOWN of 3: square 56.25 above 3", aheadOf(3, 3, 2), 2);
        CHECK.due("2 KNOWN of 3: square 2.25 below 27", aheadOf(3, 2, -1), 0);
    }

    /** All of so many POLLS DRAWN, the first ones KNOWN, with these differences of PARTY 0 and 1; ROLL 2 else. */
    private static int aheadOf(int many, int... differences) {
        QuickCount x = new QuickCount();
        for (int i = 0; i < many; i++) {
            x.poll(0, i < differences.length ? 10 : 2);
        }
        x.draw(0, many, 1);
        for (int i = 0; i < differences.length; i++) {
            readDifference(x, i, differences[i]);
        }
        return x.ahead(0, 1, 10000);
    }

    private static void readDifference(QuickCount x, int poll, int difference) {
        int a = Math.max(difference, 0);
        int b = Math.max(-difference, 0);
        Check.sheet(x, poll, 1, a, b, 0, a + b);
    }

    /** 3 POLLS with 5 less 1 twice: LOW of a is 10, HIGH of b 2 and the ROLL of the third. */
    private static void edgeOfSure() {
        CHECK.due("10 above 9", sureWithRoll(7), 2);
        CHECK.due("10 at 10", sureWithRoll(8), 1);
        CHECK.due("10 below 11", sureWithRoll(9), 1);
    }

    private static int sureWithRoll(int roll) {
        QuickCount x = new QuickCount();
        x.poll(0, 10);
        x.poll(0, 10);
        x.poll(0, roll);
        x.draw(0, 3, 1);
        Check.sheet(x, 0, 1, 5, 1, 0, 6);
        Check.sheet(x, 1, 1, 5, 1, 0, 6);
        return x.ahead(0, 1, 1);
    }

    private static void largest() {
        QuickCount x = new QuickCount();
        for (int i = 0; i < 40; i++) {
            x.poll(0, 2000);
        }
        x.draw(0, 40, 1);
        Check.sheet(x, 0, 1, 2000, 0, 0, 2000);
        Check.sheet(x, 39, 1, 0, 2000, 0, 2000);
        CHECK.told(x, "doubt", x.doubt(0, 1, 1), 1);
        CHECK.fraction(x, "40 times 38 by 2, times 8,000,000", 6080000000L, 1);
        CHECK.told(x, "24,320,000,000 is between", x.margin(0, 1, 1), 155949);
        CHECK.told(x, "high", x.worst(0, 0, true), 1);
        CHECK.fraction(x, "all rolls", 80000, 1);
    }
}
