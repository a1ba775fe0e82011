/** Promises 20 to 24 at their edges. */
final class LandEdges {
    private static final int LEAST = Integer.MIN_VALUE;
    private static final int MOST = Integer.MAX_VALUE;
    private static final String LIKE_SUM = "The FRACTION is SUM of a PARTY, or of a less b (b NONE: a alone): whether it is above (1), "
        + "at (0) or below (-1) 0 (1: like ones, too; 5). STATUS tells NONE from -1.";

    private interface Question {
        int of(QuickCount x, int a, int b, int minute);
    }

    private LandEdges() {
    }

    static void run(Edges edges) {
        sumOfALayer(edges);
        sumOfTheLand(edges);
        sumAnswers(edges);
        pairs(edges.of(20, LIKE_SUM), QuickCount::sum, true);
        pairs(edges.of(21, "The FRACTION is DOUBT, as sum() (1; 5)."), QuickCount::doubt, true);
        pairs(edges.of(22, "MARGIN (1; 5)."), QuickCount::margin, true);
        pairs(edges.of(24, "0: a is not AHEAD of b; 1: it is AHEAD; 2: SURE (1: like ones, too; 5)."), QuickCount::ahead, false);
        doubts(edges);
        spreads(edges);
        margins(edges);
        worst(edges);
        worstRefused(edges);
        ahead(edges);
        sure(edges);
        aheadOpen(edges);
    }

    /** So many POLLS of a LAYER, all DRAWN, the first ones KNOWN from minute 5 on with votes of PARTY 0 less PARTY 1. */
    private static Edge.Calls layer(int layer, int many, int... differences) {
        return x -> {
            int first = pollsOf(x);
            Scenes.polls(many, layer, 2000).on(x);
            x.draw(layer, many, 1);
            for (int i = 0; i < differences.length; i++) {
                int a = Math.max(differences[i], 0);
                int b = Math.max(-differences[i], 0);
                Check.sheet(x, first + i, 5, a, b, 0, a + b);
            }
        };
    }

    private static int pollsOf(QuickCount x) {
        int many = 0;
        while (x.told(many, 0) != -1) {
            many++;
        }
        return many;
    }

    private static void sumOfALayer(Edges edges) {
        Edge edge = edges.of(20, "At a minute: of a LAYER with N POLLS at its DRAW, of which m DRAWN ones are KNOWN: SUM of something "
            + "(votes of a PARTY; or of one less those of another one) is N by m times what the KNOWN ones have together.");
        edge.with(layer(0, 1, 7)).tells("1 by 1", x -> x.sum(0, -1, 5), 1, 7, 1);
        edge.with(layer(0, 40, 7)).tells("40 by 1", x -> x.sum(0, -1, 5), 1, 280, 1);
        Edge three = edge.with(layer(0, 3, 7, -2));
        three.tells("3 by 2, of a party", x -> x.sum(1, -1, 5), 1, 3, 1).tells("3 by 2, of one less another", x -> x.sum(0, 1, 5), 1, 15, 2)
            .tells("the other way round", x -> x.sum(1, 0, 5), -1, -15, 2)
            .refused("one minute ahead", x -> x.sum(0, 1, 4), 5);
        three.with(Scenes.polls(1, 0, 9)).tells("a later poll is not among N", x -> x.sum(0, 1, 5), 1, 15, 2)
            .with(x -> Check.sheet(x, 3, 5, 9, 0, 0, 9)).tells("nor among m", x -> x.sum(0, 1, 5), 1, 15, 2);
        edge.with(x -> {
            Scenes.polls(10, 0, 9).on(x);
            x.draw(0, 3, 1);
            for (int i = 0; i < 10; i++) {
                Check.sheet(x, i, 5, i, 0, 0, i);
            }
        }).tells("polls 2, 3 and 7 are drawn: 10 by 3 times 12", x -> x.sum(0, -1, 5), 1, 40, 1);
    }

    private static void sumOfTheLand(Edges edges) {
        Edge edge = edges.of(20, "The land's SUM: that of all LAYERS with a DRAW. It can be told, if each such LAYER has m of 1 or more, "
            + "and there is one (else OPEN, 5).");
        edge.refused("no poll", x -> x.sum(0, -1, 5), 5);
        edge.with(x -> {
            x.poll(0, 10);
            Check.sheet(x, 0, 5, 1, 1, 0, 2);
        }).refused("a known poll, but no draw", x -> x.sum(0, -1, 5), 5)
            .with(x -> x.draw(0, 1, 1)).tells("with a draw", x -> x.sum(0, -1, 5), 1, 1, 1);
        edge.with(layer(0, 1)).refused("m is 0", x -> x.sum(0, -1, 5), 5);
        edge.with(layer(3, 1, 4)).tells("m is 1", x -> x.sum(0, -1, 5), 1, 4, 1)
            .with(x -> x.poll(1, 9)).with(x -> Check.sheet(x, 1, 5, 9, 0, 0, 9))
            .tells("a layer without a draw doesn't count", x -> x.sum(0, -1, 5), 1, 4, 1)
            .with(x -> x.draw(1, 1, 1)).tells("with a draw it does", x -> x.sum(0, -1, 5), 1, 13, 1);
        Edge four = edge.with(layer(0, 2, 1)).with(layer(1, 3, 1, 1)).with(layer(2, 4, 1, 1, 0));
        four.with(layer(3, 5, 1)).tells("2, 3, 8 by 3 and 5", x -> x.sum(0, 1, 5), 1, 38, 3);
        four.with(layer(3, 5)).refused("m of the last layer is 0", x -> x.sum(0, 1, 5), 5);
        edge.with(layer(0, 2)).with(layer(1, 2, 1)).refused("m of the first layer is 0", x -> x.sum(0, 1, 5), 5);
    }

    private static void sumAnswers(Edges edges) {
        Edge edge = edges.of(20, LIKE_SUM);
        edge.with(Scenes::busy).tells("2 times 61, and 19, after another fraction", x -> x.sum(0, -1, 7), 1, 141, 1)
            .with(x -> x.sum(0, 1, 7)).tells("and after another sum", x -> x.sum(0, -1, 7), 1, 141, 1);
        edge.with(layer(0, 1, -1)).tells("-1", x -> x.sum(0, 1, 5), -1, -1, 1).tells("1", x -> x.sum(1, 0, 5), 1, 1, 1);
        edge.with(layer(0, 3, -1, -1, 0)).with(layer(1, 1, 1)).tells("-1 again", x -> x.sum(0, 1, 5), -1, -1, 1);
        edge.with(layer(0, 40, 1, 0)).tells("the least above 0", x -> x.sum(0, 1, 5), 1, 20, 1);
        edge.with(layer(0, 3, 1, -1)).tells("at 0", x -> x.sum(0, 1, 5), 0, 0, 1);
        edge.with(layer(0, 3, 0, -1)).tells("below 0", x -> x.sum(0, 1, 5), -1, -3, 2).tells("no votes of a", x -> x.sum(0, -1, 5), 0, 0, 1);
        edge.with(layer(0, 40, 2000)).tells("the highest", x -> x.sum(0, 1, 5), 1, 80000, 1).tells("the lowest", x -> x.sum(1, 0, 5), -1, -80000, 1);
    }

    /** The PARTIES and minutes that sum(), doubt(), margin() and ahead() take. */
    private static void pairs(Edge edge, Question question, boolean alone) {
        Edge busy = edge.with(Scenes::busy);
        int[][] taken = {{0, 1, 7}, {2, 1, 7}, {0, 2, 10000}, {1, 0, 8}};
        for (int[] t : taken) {
            busy.asks("status of " + t[0] + ", " + t[1] + ", " + t[2], x -> question.of(x, t[0], t[1], t[2]) * 0 + x.status(), 0);
        }
        if (alone) {
            busy.asks("a alone", x -> question.of(x, 2, -1, 7) * 0 + x.status(), 0)
                .refused("open, a alone", x -> question.of(x, 2, -1, 4), 5);
        } else {
            busy.refused("no b", x -> question.of(x, 2, -1, 7), 1).refused("no b is asked ahead of open", x -> question.of(x, 2, -1, 4), 1);
        }
        busy.refused("open", x -> question.of(x, 0, 1, 4), 5).refused("minute 0 is open", x -> question.of(x, 0, 1, 0), 5);
        int[][] wrong = {{-1, 0, 7}, {3, 0, 7}, {LEAST, 0, 7}, {MOST, 0, 7}, {0, -2, 7}, {0, 3, 7}, {0, LEAST, 7}, {0, MOST, 7},
            {0, 0, 7}, {2, 2, 7}, {-1, -1, 7}, {3, 3, 7}, {0, 1, -1}, {0, 1, 10001}, {0, 1, LEAST}, {0, 1, MOST}};
        Edge empty = edge.with(x -> x.parties(3));
        for (int[] w : wrong) {
            String what = w[0] + ", " + w[1] + ", " + w[2];
            busy.refused(what, x -> question.of(x, w[0], w[1], w[2]), 1);
            empty.refused(what + " is asked ahead of open", x -> question.of(x, w[0], w[1], w[2]), 1);
        }
        edge.refused("a third party of two", x -> question.of(x, 2, 0, 7), 1).refused("open without a draw", x -> question.of(x, 1, 0, 7), 5);
    }

    private static void doubts(Edges edges) {
        Edge edge = edges.of(21, "DOUBT: for each LAYER N times (N less m) by m, times the SPREAD of what the KNOWN ones have; all together; "
            + "it can be told, if each m is 2 or more (else 5).");
        edge.refused("no draw", x -> x.doubt(0, -1, 5), 5);
        edge.with(Scenes::busy).tells("4 times 81 by 2, after another fraction", x -> x.doubt(0, 1, 7), 1, 162, 1)
            .with(x -> x.doubt(0, 1, 7)).tells("and once more", x -> x.doubt(0, 1, 7), 1, 162, 1);
        edge.with(layer(0, 1, 5)).refused("m is 1, which is all", x -> x.doubt(0, -1, 5), 5);
        edge.with(layer(0, 3, 5)).refused("m is 1", x -> x.doubt(0, -1, 5), 5).tells("but sum is told", x -> x.sum(0, -1, 5), 1, 15, 1);
        edge.with(layer(0, 3, 5, 1)).tells("m is 2: 3 by 2 times 8", x -> x.doubt(0, -1, 5), 1, 12, 1)
            .refused("one minute ahead", x -> x.doubt(0, -1, 4), 5);
        edge.with(layer(0, 2, 5, 1)).tells("N less m is 0", x -> x.doubt(0, -1, 5), 0, 0, 1);
        edge.with(layer(0, 3, 5, 5)).tells("no spread", x -> x.doubt(0, -1, 5), 0, 0, 1);
        edge.with(layer(0, 3, 1, 0)).with(layer(1, 1, 5)).refused("m of another layer is 1", x -> x.doubt(0, 1, 5), 5);
        edge.with(layer(0, 3, 1, 0)).with(layer(1, 2)).refused("m of another layer is 0", x -> x.doubt(0, 1, 5), 5);
        edge.with(layer(0, 3, 1, 0)).with(layer(1, 3, 1, -1)).with(layer(2, 2, 4, 1)).with(layer(3, 4, 1, 0, 0))
            .tells("3 by 4, 3, 0 and 4 by 9", x -> x.doubt(0, 1, 5), 1, 151, 36)
            .tells("a alone: 3 by 4, 3 by 4, 0 and 4 by 9", x -> x.doubt(0, -1, 5), 1, 35, 18);
        edge.with(layer(0, 3, 1, 0)).with(x -> x.poll(1, 9)).with(x -> Check.sheet(x, 3, 5, 9, 0, 0, 9))
            .tells("a layer without a draw doesn't count", x -> x.doubt(0, 1, 5), 1, 3, 4);
    }

    private static void spreads(Edges edges) {
        Edge edge = edges.of(21, "SPREAD: the squares of how far each is from their mean, together, by m less 1.");
        edge.with(layer(0, 4, 1, 2, 4)).tells("4 by 3, times 14 by 3 by 2", x -> x.doubt(0, -1, 5), 1, 28, 9);
        edge.with(layer(0, 4, 1, -2, 4)).tells("4 by 3, times 18 by 2", x -> x.doubt(0, 1, 5), 1, 12, 1);
        edge.with(layer(0, 40, 2000, -2000)).tells("the widest", x -> x.doubt(0, 1, 5), 1, 6080000000L, 1);
        edge.with(layer(0, 40, 2000, 2000)).tells("the highest votes, all alike", x -> x.doubt(0, 1, 5), 0, 0, 1);
    }

    private static void margins(Edges edges) {
        Edge edge = edges.of(22, "MARGIN: the least whole number of which the square is 4 times DOUBT or more.");
        edge.with(layer(0, 3, 2, 2)).taken("0", x -> x.margin(0, -1, 5), 0);
        edge.with(layer(0, 6, 0, 0, 0, 0, 1)).taken("24 by 25", x -> x.margin(0, -1, 5), 1);
        edge.with(layer(0, 5, 0, 0, 0, 1)).taken("5 by 4", x -> x.margin(0, -1, 5), 2);
        edge.with(layer(0, 4, 0, 0, 3)).taken("16, a square", x -> x.margin(0, -1, 5), 4);
        edge.with(layer(0, 3, 0, 2)).taken("12", x -> x.margin(0, -1, 5), 4);
        edge.with(layer(0, 3, 0, 2)).with(layer(1, 5, 0, 1, 2)).taken("25 and 1 by 3", x -> x.margin(0, -1, 5), 6);
        edge.with(layer(0, 40, 2000, -2000)).taken("24,320,000,000", x -> x.margin(0, 1, 5), 155949);
        edge.with(Scenes::busy).taken("648", x -> x.margin(0, 1, 7), 26)
            .with(x -> x.margin(0, 1, 7)).taken("once more", x -> x.margin(0, 1, 7), 26);
        edge.with(layer(0, 1, 5)).refused("m is 1", x -> x.margin(0, -1, 5), 5);
        edge.with(layer(0, 2, 5, 1)).taken("m is 2, which is all", x -> x.margin(0, -1, 5), 0)
            .with(x -> x.sum(0, -1, 5)).asks("it tells no fraction", x -> x.margin(0, -1, 5) + x.top(), 6);
    }

    private static void worst(Edges edges) {
        Edge edge = edges.of(23, "WORST: as SUM, but by all n DRAWN ones, N by n times: those that aren't KNOWN have for LOW no vote of the "
            + "PARTY, for HIGH as many as their ROLL.");
        Edge busy = edge.with(Scenes::busy);
        busy.tells("low: 4 by 3 times 61, and 19", x -> x.worst(0, 7, false), 1, 301, 3)
            .tells("high: 4 by 3 times 101, and 19", x -> x.worst(0, 7, true), 1, 461, 3)
            .tells("low with none known", x -> x.worst(0, 2, false), 0, 0, 1)
            .tells("high with none known: 4 by 3 times 220, and 80", x -> x.worst(2, 2, true), 1, 1120, 3)
            .tells("a sheet that isn't good is not known: 4 by 3 times 160, and 80", x -> x.worst(0, 3, true), 1, 880, 3)
            .tells("its poll has no vote for low: 4 by 3 times 40", x -> x.worst(0, 3, false), 1, 160, 3);
        edge.with(layer(0, 2, 3, -1)).tells("all known, low", x -> x.worst(0, 5, false), 1, 3, 1)
            .tells("all known, high", x -> x.worst(0, 5, true), 1, 3, 1);
        edge.with(layer(0, 40)).tells("the highest", x -> x.worst(0, 5, true), 1, 80000, 1);
        edge.with(Scenes.polls(40, 1, 1)).with(x -> x.draw(1, 1, 1)).tells("1 of 40", x -> x.worst(0, 5, true), 1, 40, 1);
        edge.with(layer(0, 1, 1)).with(layer(1, 1)).tells("two layers, low", x -> x.worst(0, 5, false), 1, 1, 1)
            .tells("two layers, high", x -> x.worst(0, 5, true), 1, 2001, 1);
    }

    private static void worstRefused(Edges edges) {
        Edge edge = edges.of(23, "The FRACTION is LOW, or HIGH (high true), of a PARTY, as sum() (1; 5: no LAYER has a DRAW).");
        edge.refused("no poll, low", x -> x.worst(0, 5, false), 5).refused("no poll, high", x -> x.worst(1, 5, true), 5);
        edge.with(x -> x.poll(0, 9)).with(x -> Check.sheet(x, 0, 5, 1, 0, 0, 1)).refused("a known poll, but no draw", x -> x.worst(0, 5, true), 5)
            .with(x -> x.draw(0, 1, 1)).tells("with a draw", x -> x.worst(0, 5, true), 1, 1, 1);
        Edge busy = edge.with(Scenes::busy);
        busy.tells("the last party", x -> x.worst(2, 10000, false), 1, 52, 1)
            .tells("minute 0", x -> x.worst(0, 0, false), 0, 0, 1);
        Edge empty = edge.with(x -> x.parties(3));
        int[][] wrong = {{-1, 7}, {3, 7}, {LEAST, 7}, {MOST, 7}, {0, -1}, {0, 10001}, {0, LEAST}, {0, MOST}};
        for (int[] w : wrong) {
            busy.refused("low of " + w[0] + ", " + w[1], x -> x.worst(w[0], w[1], false), 1)
                .refused("high of " + w[0] + ", " + w[1], x -> x.worst(w[0], w[1], true), 1);
            empty.refused(w[0] + ", " + w[1] + " is asked ahead of open", x -> x.worst(w[0], w[1], true), 1);
        }
    }

    private static void ahead(Edges edges) {
        Edge edge = edges.of(24, "AHEAD is a PARTY a of b, if SUM of a less b is above 0, its square above 4 times its DOUBT;");
        edge.with(layer(0, 4, 1, 0, 0)).taken("the square at 4 times doubt", x -> x.ahead(0, 1, 5), 0);
        edge.with(layer(0, 4, 1, 1, 0)).taken("the square above it", x -> x.ahead(0, 1, 5), 1);
        edge.with(layer(0, 3, 3, 1)).taken("the square of 6 above 12", x -> x.ahead(0, 1, 5), 1)
            .with(x -> x.ahead(0, 1, 5)).taken("once more", x -> x.ahead(0, 1, 5), 1);
        edge.with(layer(0, 3, 10, 1)).taken("272.25 above 4 times 60.75", x -> x.ahead(0, 1, 5), 1);
        edge.with(layer(0, 3, 8, 0)).taken("144 below 4 times 48", x -> x.ahead(0, 1, 5), 0);
        edge.with(layer(0, 4, 2, 0, -1)).taken("the square below it", x -> x.ahead(0, 1, 5), 0);
        edge.with(layer(0, 4, -1, -1, 0)).taken("sum below 0, its square above", x -> x.ahead(0, 1, 5), 0)
            .taken("the other way round", x -> x.ahead(1, 0, 5), 1);
        edge.with(layer(0, 2, 2, -2)).taken("sum at 0, no doubt", x -> x.ahead(0, 1, 5), 0).taken("nor the other", x -> x.ahead(1, 0, 5), 0);
        edge.with(layer(0, 2, 1, 0)).taken("sum 1, no doubt", x -> x.ahead(0, 1, 5), 2).taken("not the other", x -> x.ahead(1, 0, 5), 0);
        edge.with(layer(0, 4, 500, 500, 500)).taken("no spread", x -> x.ahead(0, 1, 5), 1);
        edge.with(layer(0, 40, 2000, -1999)).taken("doubt by far", x -> x.ahead(0, 1, 5), 0);
    }

    private static void sure(Edges edges) {
        Edge edge = edges.of(24, "and SURE, if also LOW of a is above HIGH of b.");
        int[][] rolls = {{7, 2}, {8, 1}, {9, 1}};
        for (int[] r : rolls) {
            edge.with(x -> {
                x.poll(0, 10);
                x.poll(0, 10);
                x.poll(0, r[0]);
                x.draw(0, 3, 1);
                Check.sheet(x, 0, 5, 5, 1, 0, 6);
                Check.sheet(x, 1, 5, 5, 1, 0, 6);
            }).taken("low 10, high " + (2 + r[0]), x -> x.ahead(0, 1, 5), r[1]);
        }
        Edge three = edge.with(Scenes.polls(4, 0, 9)).with(x -> x.draw(0, 3, 1));
        three.with(x -> {
            Check.sheet(x, 0, 5, 1, 0, 0, 1);
            Check.sheet(x, 1, 5, 0, 0, 0, 0);
            Check.sheet(x, 3, 5, 0, 0, 0, 0);
        }).taken("low above high, but not ahead", x -> x.ahead(0, 1, 5), 0);
        three.with(x -> {
            Check.sheet(x, 0, 5, 1, 0, 0, 1);
            Check.sheet(x, 1, 5, 1, 0, 0, 1);
            Check.sheet(x, 3, 5, 0, 0, 0, 0);
        }).taken("all drawn ones known, though not all polls", x -> x.ahead(0, 1, 5), 2);
    }

    private static void aheadOpen(Edges edges) {
        Edge edge = edges.of(24, "0: a is not AHEAD of b; 1: it is AHEAD; 2: SURE (1: like ones, too; 5).");
        edge.with(layer(0, 3)).refused("m is 0", x -> x.ahead(0, 1, 5), 5);
        edge.with(layer(0, 3, 5)).refused("m is 1", x -> x.ahead(0, 1, 5), 5).refused("m is 1, b is above a", x -> x.ahead(1, 0, 5), 5);
        edge.with(layer(0, 3, 5, 5)).taken("m is 2", x -> x.ahead(0, 1, 5), 1).refused("one minute ahead", x -> x.ahead(0, 1, 4), 5);
        edge.with(layer(0, 3, 5, 5)).with(layer(1, 1, 5)).refused("m of another layer is 1", x -> x.ahead(0, 1, 5), 5);
        edge.with(layer(0, 3, 5, 5)).with(x -> x.sum(0, -1, 5)).asks("it tells no fraction", x -> x.ahead(0, 1, 5) + x.top(), 16);
    }
}
