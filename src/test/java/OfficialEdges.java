/** Promises 25 to 28 at their edges. */
final class OfficialEdges {
    private static final int LEAST = Integer.MIN_VALUE;
    private static final int MOST = Integer.MAX_VALUE;

    private OfficialEdges() {
    }

    static void run(Edges edges) {
        toldAnew(edges);
        numbers(edges);
        order(edges);
        off(edges);
        offRefused(edges);
        offs(edges);
        lean(edges);
        leanRefused(edges);
    }

    private static void toldAnew(Edges edges) {
        Edge edge = edges.of(25, "OFFICIAL numbers of a POLL: votes of each PARTY, told once or anew.").with(Scenes::busy);
        edge.taken("told once", x -> x.off(0, 2, 7), -2).refused("told never", x -> x.off(1, 0, 7), 6);
        edge.with(x -> Check.official(x, 0, 40, 31, 9999)).taken("told anew", x -> x.off(0, 2, 7), 9979)
            .taken("each party", x -> x.off(0, 0, 7), 0).taken("each party", x -> x.off(0, 1, 7), 1)
            .taken("another poll stays", x -> x.off(4, 1, 7), 1);
        edges.of(25, "OFFICIAL numbers of a POLL: votes of each PARTY, told once or anew.").with(x -> {
            x.parties(4);
            Scenes.polls(40, 0, 10).on(x);
            Check.fill(x, 0, 1, 1, 1, 1, 0, 4);
            Check.fill(x, 1, 5, 6, 7, 8, 9);
            for (int i = 39; i >= 0; i--) {
                x.sheet(i, 0, 0);
                x.official(i, 1);
            }
        }).taken("the first of 40 polls", x -> x.off(0, 0, 0), 4).taken("its last party", x -> x.off(0, 3, 0), 7)
            .taken("the second", x -> x.off(1, 0, 0), 4).taken("the last", x -> x.off(39, 3, 0), 7);
        edge.with(x -> Check.official(x, 0, 0, 0, 0)).taken("by 0s", x -> x.off(0, 0, 7), -40);
        edge.with(x -> Check.official(x, 0, 0, 0, 0)).with(x -> x.write(1, 0, 5)).taken("as the tray was then", x -> x.off(0, 0, 7), -40);
    }

    private static void numbers(Edges edges) {
        String words = "OFFICIAL numbers of a POLL by the first numbers of a TRAY, one for each PARTY (0 to 9,999)";
        for (int parties = 2; parties <= 4; parties++) {
            int p = parties;
            Edge edge = edges.of(25, words).with(x -> {
                x.parties(p);
                x.poll(0, 10);
            });
            edge.with(x -> x.tray(0, 1, p - 1)).refused(p + " parties, one too few", x -> x.official(0, 0), 4);
            edge.with(x -> x.tray(0, 1, 0)).refused(p + " parties, an empty row", x -> x.official(0, 0), 4);
            edge.with(x -> x.tray(0, 1, p)).done(p + " parties, enough", x -> x.official(0, 0));
            edge.with(x -> x.tray(0, 1, 20)).with(x -> x.write(0, p, -1)).with(x -> x.write(0, 19, 10000))
                .done("what stands behind isn't looked at", x -> x.official(0, 0));
            for (int number = 0; number < p; number++) {
                int n = number;
                String what = "number " + n + " of " + p + ", ";
                Edge wide = edge.with(x -> x.tray(0, 3, p));
                wide.with(x -> x.write(0, n, 9999)).done(what + "9,999, above the roll", x -> x.official(0, 0));
                long[] wrong = {-1, 10000, 4294967296L, Long.MIN_VALUE, Long.MAX_VALUE};
                for (long v : wrong) {
                    wide.with(x -> x.write(0, n, v)).refused(what + v, x -> x.official(0, 0), 1);
                }
            }
        }
    }

    private static void order(Edges edges) {
        Edge edge = edges.of(25, "(1; 3; 4; 1: the numbers; asked in this order).").with(Scenes::busy);
        edge.done("the first poll", x -> x.official(0, 0)).done("the last poll", x -> x.official(6, 0));
        for (int w : new int[] {-1, 7, LEAST, MOST}) {
            edge.refused("poll " + w, x -> x.official(w, 0), 1).refused("poll " + w + ", ahead of missing", x -> x.official(w, 3), 1);
        }
        for (int w : new int[] {-1, 4, LEAST, MOST}) {
            edge.refused("tray " + w, x -> x.official(0, w), 1);
        }
        edge.refused("missing", x -> x.official(0, 3), 3).refused("too few", x -> x.official(0, 1), 4)
            .with(x -> x.tray(3, 2, 2)).with(x -> x.write(3, 0, -1)).refused("too few, ahead of the numbers", x -> x.official(0, 3), 4);
        edge.refused("the numbers", x -> x.official(0, 2), 1);
    }

    private static void off(Edges edges) {
        Edge edge = edges.of(26, "OFF from the SHEET KNOWN at a minute is a POLL by a PARTY: OFFICIAL less KNOWN votes.").with(x -> {
            x.poll(0, 2000);
            Check.sheet(x, 0, 5, 2000, 0, 0, 2000);
            Check.sheet(x, 0, 6, 7, 8, 0, 15);
            Check.sheet(x, 0, 6, 1, 2, 0, 4);
        });
        Edge told = edge.with(x -> Check.official(x, 0, 0, 9999));
        told.taken("the lowest", x -> x.off(0, 0, 5), -2000).taken("the highest", x -> x.off(0, 1, 5), 9999)
            .refused("one minute ahead", x -> x.off(0, 0, 4), 6)
            .taken("from a later sheet, not one that isn't good", x -> x.off(0, 0, 6), -7);
        edge.with(x -> Check.official(x, 0, 7, 7)).taken("0", x -> x.off(0, 0, 10000), 0).taken("-1 is no NONE", x -> x.off(0, 1, 10000), -1);
    }

    private static void offRefused(Edges edges) {
        Edge edge = edges.of(26, "OFF (1; 6: one of both lacks). STATUS tells NONE from -1.").with(Scenes::busy);
        edge.refused("the official numbers lack", x -> x.off(1, 0, 7), 6).refused("the sheet lacks", x -> x.off(6, 0, 7), 6)
            .refused("both lack", x -> x.off(3, 0, 7), 6).refused("the sheet came later", x -> x.off(4, 0, 4), 6)
            .taken("both are there", x -> x.off(4, 0, 5), 0).taken("the last party", x -> x.off(0, 2, 10000), -2);
        edge.with(x -> Check.sheet(x, 6, 7, 1, 1, 1, 0, 4)).refused("the sheet is not good", x -> x.off(6, 0, 7), 6);
        edge.with(x -> Check.sheet(x, 6, 7, 6, 5, 5, 0, 16)).taken("-1", x -> x.off(6, 0, 7), -1);
        int[][] wrong = {{-1, 0, 7}, {7, 0, 7}, {LEAST, 0, 7}, {MOST, 0, 7}, {0, -1, 7}, {0, 3, 7}, {0, LEAST, 7}, {0, MOST, 7},
            {0, 0, -1}, {0, 0, 10001}, {0, 0, LEAST}, {0, 0, MOST}, {1, 3, 7}, {6, 0, 10001}};
        for (int[] w : wrong) {
            edge.refused("off " + w[0] + ", " + w[1] + ", " + w[2], x -> x.off(w[0], w[1], w[2]), 1);
        }
    }

    private static void offs(Edges edges) {
        Edge edge = edges.of(27, "How many POLLS are OFF by a PARTY (what 0), of these above 0 (1), all these OFF together (2) (1). "
            + "STATUS tells NONE from -1.");
        edge.taken("no polls", x -> x.offs(0, 0, 0), 0).taken("no polls, above 0", x -> x.offs(0, 1, 0), 0)
            .taken("no polls, together", x -> x.offs(1, 2, 10000), 0);
        Edge busy = edge.with(Scenes::busy);
        busy.taken("poll 0, not poll 4 with 0 nor poll 6 without a sheet", x -> x.offs(0, 0, 7), 1)
            .taken("above 0", x -> x.offs(0, 1, 7), 1).taken("together", x -> x.offs(0, 2, 7), 1)
            .taken("below 0", x -> x.offs(2, 0, 10000), 1).taken("none above 0", x -> x.offs(2, 1, 10000), 0)
            .taken("together below 0", x -> x.offs(2, 2, 10000), -2)
            .taken("one minute ahead of poll 4", x -> x.offs(1, 0, 4), 0).taken("at its minute", x -> x.offs(1, 0, 5), 1)
            .taken("ahead of all", x -> x.offs(0, 2, 2), 0);
        busy.with(x -> x.offs(2, 2, 7)).with(x -> x.offs(0, 1, 7)).taken("once more", x -> x.offs(2, 0, 7), 1)
            .taken("above 0 after below 0", x -> x.offs(0, 1, 7), 1).taken("together once more", x -> x.offs(2, 2, 7), -2);
        busy.with(x -> Check.official(x, 1, 21, 20, 11)).taken("-1 together is no NONE", x -> x.offs(2, 2, 7), -1)
            .taken("two", x -> x.offs(2, 0, 7), 2).taken("one above 0", x -> x.offs(2, 1, 7), 1);
        busy.with(x -> Check.official(x, 1, 21, 20, 12)).taken("0 together", x -> x.offs(2, 2, 7), 0);
        int[][] wrong = {{-1, 0, 7}, {3, 0, 7}, {LEAST, 0, 7}, {MOST, 0, 7}, {0, -1, 7}, {0, 3, 7}, {0, LEAST, 7}, {0, MOST, 7},
            {0, 0, -1}, {0, 1, 10001}, {0, 2, LEAST}, {0, 0, MOST}};
        for (int[] w : wrong) {
            busy.refused("offs " + w[0] + ", " + w[1] + ", " + w[2], x -> x.offs(w[0], w[1], w[2]), 1);
            edge.with(x -> x.parties(3)).refused("without polls: " + w[0] + ", " + w[1] + ", " + w[2], x -> x.offs(w[0], w[1], w[2]), 1);
        }
        Edge forty = edge.with(offBy(40, 40));
        forty.taken("forty", x -> x.offs(0, 0, 0), 40).taken("all above 0", x -> x.offs(0, 1, 0), 40)
            .taken("forty times 9,999", x -> x.offs(0, 2, 0), 399960).taken("not by the other party", x -> x.offs(1, 0, 0), 0);
        edge.with(offBy(40, 0)).taken("forty times -2,000", x -> x.offs(0, 2, 0), -80000).taken("none above 0", x -> x.offs(0, 1, 0), 0);
    }

    /** So many POLLS OFF by PARTY 0, the first ones by 9,999 and the others by -2,000; none by PARTY 1. */
    private static Edge.Calls offBy(int many, int above) {
        return x -> {
            Scenes.polls(many, 0, 2000).on(x);
            for (int i = 0; i < many; i++) {
                int votes = i < above ? 0 : 2000;
                if (i == 0 || i == above) {
                    Check.fill(x, 0, votes, 0, 0, votes);
                    Check.fill(x, 1, i < above ? 9999 : 0, 0);
                }
                x.sheet(i, 0, 0);
                x.official(i, 1);
            }
        };
    }

    private static void lean(Edges edges) {
        Edge edge = edges.of(28, "LEAN for a PARTY: of all POLLS with both and OFF by it other than 0, n, those with it above 0, k: the chance "
            + "that k or more of n come above 0, if each is as likely as not: a FRACTION (1 by 1 if n is 0).");
        edge.tells("n is 0, without polls", x -> x.lean(0, 0), 1, 1, 1);
        edge.with(offBy(3, 2)).tells("n is 0, none is off", x -> x.lean(1, 0), 1, 1, 1).tells("2 of 3", x -> x.lean(0, 0), 1, 1, 2);
        long all = 1L << 40;
        long[][] chances = {{1, 0, 1, 1}, {1, 1, 1, 2}, {2, 0, 1, 1}, {2, 1, 3, 4}, {2, 2, 1, 4}, {3, 1, 7, 8}, {4, 2, 11, 16},
            {10, 9, 11, 1024}, {10, 10, 1, 1024}, {39, 20, 1, 2}, {40, 0, 1, 1}, {40, 1, all - 1, all}, {40, 2, all - 41, all},
            {40, 20, 309339539149L, all / 2}, {40, 39, 41, all}, {40, 40, 1, all}};
        for (long[] c : chances) {
            edge.with(offBy((int) c[0], (int) c[1])).tells(c[1] + " of " + c[0], x -> x.lean(0, 0), 1, c[2], c[3]);
        }
        edge.with(offBy(2, 1)).with(x -> x.poll(1, 10)).with(x -> x.official(2, 1))
            .tells("a poll without a sheet is not among n", x -> x.lean(0, 0), 1, 3, 4)
            .with(x -> Check.sheet(x, 2, 3, 1, 0, 0, 1)).tells("nor one minute ahead", x -> x.lean(0, 2), 1, 3, 4)
            .tells("at its minute it is", x -> x.lean(0, 3), 1, 7, 8);
        edge.with(offBy(2, 1)).with(x -> x.poll(1, 10)).with(x -> Check.sheet(x, 2, 0, 1, 0, 0, 1))
            .tells("a poll without official numbers is not among n", x -> x.lean(0, 0), 1, 3, 4)
            .with(x -> Check.official(x, 2, 1, 0)).tells("nor one with 0", x -> x.lean(0, 0), 1, 3, 4)
            .with(x -> Check.official(x, 2, 2, 0)).tells("but one with 1", x -> x.lean(0, 0), 1, 1, 2);
    }

    private static void leanRefused(Edges edges) {
        Edge edge = edges.of(28, "The FRACTION is LEAN: 1 (1).").with(Scenes::busy);
        edge.tells("the first party", x -> x.lean(0, 7), 1, 1, 2).tells("the last party", x -> x.lean(2, 10000), 1, 1, 1)
            .tells("minute 0", x -> x.lean(0, 0), 1, 1, 1)
            .with(x -> x.lean(0, 7)).tells("once more", x -> x.lean(0, 7), 1, 1, 2);
        int[][] wrong = {{-1, 7}, {3, 7}, {LEAST, 7}, {MOST, 7}, {0, -1}, {0, 10001}, {0, LEAST}, {0, MOST}};
        for (int[] w : wrong) {
            edge.refused("lean " + w[0] + ", " + w[1], x -> x.lean(w[0], w[1]), 1);
        }
    }
}
