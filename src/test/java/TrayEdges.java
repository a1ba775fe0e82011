/** Promises 1 to 8 at their edges. */
final class TrayEdges {
    private static final int LEAST = Integer.MIN_VALUE;
    private static final int MOST = Integer.MAX_VALUE;

    private TrayEdges() {
    }

    static void run(Edges edges) {
        calls(edges);
        newObject(edges);
        missingAtFirst(edges);
        statuses(edges);
        statusOfNone(edges);
        fractions(edges);
        refusals(edges);
        laying(edges);
        cutting(edges);
        writing(edges);
        reading(edges);
        pouring(edges);
        pouringOrder(edges);
    }

    private static void calls(Edges edges) {
        edges.of(1, "An object is used for at most 512 calls after it has been made; what later calls answer is free.")
            .with(x -> {
                x.tray(0, 3, 1);
                for (int i = 0; i < 510; i++) {
                    x.write(0, 0, i);
                }
            })
            .taken("the 512th call", x -> x.read(0, 0), 509);
    }

    private static void newObject(Edges edges) {
        edges.of(1, "2 PARTIES, no POLLS; TRAYS are MISSING; minute 0; the FRACTION 0 by 1; STATUS 0.")
            .asks("status", x -> x.status(), 0)
            .asks("top", x -> x.top(), 0)
            .asks("bottom", x -> x.bottom(), 1)
            .taken("the last party", x -> x.lean(1, 0), 1)
            .refused("one more", x -> x.lean(2, 0), 1)
            .refused("no poll", x -> x.told(0, 0), 1)
            .taken("the first poll", x -> x.poll(0, 1), 0)
            .refused("no sheet", x -> x.good(0), 1)
            .refused("no tray", x -> x.read(0, 0), 3)
            .with(x -> {
                x.poll(0, 10);
                Check.fill(x, 0, 1, 1, 0, 2);
            })
            .taken("minute 0 is not gone", x -> x.sheet(0, 0, 0), 0)
            .refused("there is no minute ahead of it", x -> x.sheet(0, 0, -1), 1);
        edges.of(1, "The constants: `NONE = -1`: None.")
            .asks("NONE", x -> QuickCount.NONE, -1);
    }

    private static void missingAtFirst(Edges edges) {
        Edge edge = edges.of(1, "TRAYS 0 to 3 are MISSING at first, or rows of 0 to 20 numbers")
            .with(x -> x.poll(0, 10));
        for (int tray = 0; tray < 4; tray++) {
            int t = tray;
            edge.refused("read tray " + t, x -> x.read(t, 0), 3)
                .refused("write tray " + t, x -> x.write(t, 0, 1), 3)
                .refused("pour from tray " + t, x -> x.pour(t, 0, t, 0, 0), 3)
                .refused("sheet by tray " + t, x -> x.sheet(0, t, 0), 3)
                .refused("official by tray " + t, x -> x.official(0, t), 3)
                .done("lay tray " + t, x -> x.tray(t, 0, 1))
                .with(x -> x.tray(t, 0, 1))
                .taken("tray " + t + " is there", x -> x.read(t, 0), 0)
                .refused("the one behind tray " + t + " is not", x -> x.read((t + 1) % 4, 0), 3);
        }
    }

    private static void statuses(Edges edges) {
        String[] words = {"1 a number that can't be; no such TRAY, PARTY, LAYER, POLL, SHEET.", "2 the minute is gone.",
            "3 the TRAY is MISSING.", "4 a place that the TRAY has not, or too few numbers.", "5 OPEN: it can't be told.",
            "6 there is none such.", "7 one too many.", "8 TRAYS are of unlike sorts."};
        Edge.Ask[] calls = {x -> x.told(7, 0), x -> x.sheet(0, 0, 6), x -> x.read(3, 0), x -> x.read(1, 2),
            x -> x.sum(0, 1, 4), x -> x.layer(2, 0, 0), x -> x.parties(3), x -> x.pour(1, 0, 2, 0, 1)};
        Edge latest = edges.of(2, "STATUS of the latest call that has one.").with(Scenes::busy);
        for (int i = 0; i < words.length; i++) {
            Edge.Ask call = calls[i];
            edges.of(2, words[i]).with(Scenes::busy).refused("status " + (i + 1), call, i + 1);
            latest.with(x -> call.of(x)).asks("status " + (i + 1), x -> x.status(), i + 1)
                .taken("then a call with status 0", x -> x.told(0, 1), 100);
        }
        edges.of(2, "STATUS of a call is the first of these that holds:").with(Scenes::busy)
            .refused("no tray, ahead of a place it has not", x -> x.read(4, 99), 1)
            .refused("missing, ahead of a place it has not", x -> x.read(3, 99), 3);
        edges.of(2, "0 else.").with(Scenes::busy).taken("a poll", x -> x.poll(0, 1), 7).done("a tray", x -> x.tray(0, 0, 0));
    }

    private static void statusOfNone(Edges edges) {
        Edge edge = edges.of(2, "status(), top(), bottom() have none.").with(Scenes::busy);
        edge.with(x -> x.read(3, 0))
            .asks("status twice", x -> x.status() * 10 + x.status(), 33)
            .asks("status after top", x -> x.top() * 0 + x.status(), 3)
            .asks("status after bottom", x -> x.bottom() * 0 + x.status(), 3);
        edge.with(x -> x.told(0, 0))
            .asks("0 after status, top and bottom", x -> (x.status() + x.top() + x.bottom()) * 0 + x.status(), 0);
    }

    private static void fractions(Edges edges) {
        Edge.Calls three = x -> {
            Scenes.polls(3, 0, 10).on(x);
            x.draw(0, 3, 1);
            Check.sheet(x, 0, 0, 0, 1, 0, 1);
            Check.sheet(x, 1, 0, 2, 2, 0, 4);
        };
        edges.of(3, "FRACTIONS are told by top() and bottom() without a common divisor; 0 is 0 by 1; a top may be below 0.")
            .with(three)
            .tells("3 by 2 times -1", x -> x.sum(0, 1, 0), -1, -3, 2)
            .tells("3 by 2 times 2", x -> x.sum(0, -1, 0), 1, 3, 1)
            .tells("3 by 3", x -> x.chance(0), 1, 1, 1)
            .tells("0 after another", x -> zeroAgain(x), 0, 0, 1);
        Edge latest = edges.of(3, "The top of the FRACTION told latest.").with(Scenes::busy);
        latest.asks("3 by 4", x -> x.top(), 3)
            .with(x -> x.sum(0, -1, 4))
            .asks("an open sum tells none", x -> x.top(), 3);
        latest.with(x -> {
            x.told(0, 0);
            x.margin(0, 1, 7);
            x.ahead(0, 1, 7);
            x.offs(0, 2, 7);
            x.known(0, 7);
        }).asks("calls that tell none", x -> x.top(), 3)
            .with(x -> x.chance(6))
            .asks("the latest", x -> x.top(), 0);
        edges.of(4, "Its bottom, above 0.").with(Scenes::busy)
            .asks("3 by 4", x -> x.bottom(), 4)
            .tells("0 by 1", x -> x.chance(6), 0, 0, 1)
            .tells("below 0 by 1", x -> x.sum(2, 1, 7), -1, -56, 1)
            .with(x -> x.lean(3, 0))
            .asks("a refused call tells none", x -> x.bottom(), 4);
        edges.of(4, "FRACTIONS are told by top() and bottom() without a common divisor;").with(three)
            .tells("bottom 2 of a top below 0", x -> x.sum(0, 1, 0), -1, -3, 2);
    }

    /** A sum of 0 after one that isn't. */
    private static int zeroAgain(QuickCount x) {
        Check.sheet(x, 0, 0, 2, 1, 0, 3);
        Check.sheet(x, 1, 0, 1, 2, 0, 3);
        x.sum(0, -1, 0);
        return x.sum(0, 1, 0);
    }

    private static void refusals(Edges edges) {
        edges.of(2, "With another STATUS than 0 a call gives NONE, or false, and changes nothing else.").with(Scenes::busy)
            .refused("tray", x -> x.tray(0, 0, 21), 1)
            .refused("write", x -> x.write(1, 2, 5), 4)
            .refused("read", x -> x.read(1, 2), 4)
            .refused("pour", x -> x.pour(2, 0, 2, 1, 3), 4)
            .refused("parties", x -> x.parties(2), 7)
            .refused("poll", x -> x.poll(0, 2001), 1)
            .refused("draw", x -> x.draw(0, 5, 9), 1)
            .refused("told", x -> x.told(0, 3), 1)
            .refused("chance", x -> x.chance(7), 1)
            .refused("sheet", x -> x.sheet(0, 3, 500), 3)
            .refused("good", x -> x.good(7), 1)
            .refused("habit", x -> x.habit(3, 10, true), 1)
            .refused("slip", x -> x.slip(0, 0), 6)
            .refused("known", x -> x.known(3, 500), 6)
            .refused("layer", x -> x.layer(2, 1, 500), 6)
            .refused("sum", x -> x.sum(0, 1, 4), 5)
            .refused("doubt", x -> x.doubt(0, 1, 5), 5)
            .refused("margin", x -> x.margin(0, 1, 5), 5)
            .refused("worst", x -> x.worst(3, 7, true), 1)
            .refused("ahead", x -> x.ahead(0, 1, 5), 5)
            .refused("official", x -> x.official(1, 3), 3)
            .refused("off", x -> x.off(6, 0, 7), 6)
            .refused("offs", x -> x.offs(0, 3, 7), 1)
            .refused("lean", x -> x.lean(0, 10001), 1);
    }

    private static void laying(Edges edges) {
        Edge edge = edges.of(5, "TRAYS 0 to 3 are MISSING at first, or rows of 0 to 20 numbers of 8 bits (sort 0), 16 (1), 32 (2) or 64 (3).")
            .with(Scenes::busy);
        edge.done("the first tray", x -> x.tray(0, 1, 5)).done("the last tray", x -> x.tray(3, 1, 5))
            .done("the first sort", x -> x.tray(1, 0, 5)).done("the last sort", x -> x.tray(1, 3, 5))
            .done("an empty row", x -> x.tray(1, 1, 0)).done("a full row", x -> x.tray(1, 1, 20));
        int[][] wrong = {{-1, 1, 5}, {4, 1, 5}, {LEAST, 1, 5}, {MOST, 1, 5}, {1, -1, 5}, {1, 4, 5}, {1, LEAST, 5},
            {1, MOST, 5}, {1, 1, -1}, {1, 1, 21}, {1, 1, LEAST}, {1, 1, MOST}};
        for (int[] w : wrong) {
            edge.refused("tray " + w[0] + ", " + w[1] + ", " + w[2], x -> x.tray(w[0], w[1], w[2]), 1);
        }
        edge.with(x -> x.tray(3, 1, 20)).taken("the last place", x -> x.read(3, 19), 0)
            .refused("one beyond it", x -> x.read(3, 20), 4);
        edge.with(x -> x.tray(2, 0, 0)).refused("an empty row has no place", x -> x.read(2, 0), 4);
        Edge zeros = edges.of(5, "A TRAY is a row of so many 0s (1).").with(Scenes::busy).with(x -> {
            for (int i = 0; i < 3; i++) {
                x.write(2, i, 5);
            }
            x.tray(2, 0, 2);
            x.tray(2, 0, 3);
        });
        for (int place = 0; place < 3; place++) {
            int p = place;
            zeros.taken("laid anew, place " + p, x -> x.read(2, p), 0);
        }
        zeros.refused("place 3", x -> x.read(2, 3), 4).refused("a number that can't be", x -> x.tray(2, 0, 21), 1)
            .taken("another tray stays", x -> x.read(0, 0), 30);
    }

    private static void cutting(Edges edges) {
        String[] words = {"numbers of 8 bits (sort 0)", "16 (1)", "32 (2)", "64 (3)"};
        for (int sort = 0; sort < 4; sort++) {
            int s = sort;
            long most = Long.MAX_VALUE >> (64 - (8 << sort));
            Edge edge = edges.of(6, words[sort]).with(x -> x.tray(0, s, 2));
            edge.taken("the highest", x -> kept(x, most), most)
                .taken("the lowest", x -> kept(x, -most - 1), -most - 1)
                .taken("one above the highest", x -> kept(x, most + 1), -most - 1)
                .taken("one below the lowest", x -> kept(x, -most - 2), most)
                .taken("all bits", x -> kept(x, 2 * most + 1), -1)
                .taken("one more than all bits", x -> kept(x, 2 * most + 2), 0)
                .taken("the lower bits of more", x -> kept(x, 6 * most + 6 + 5), 5);
        }
    }

    private static long kept(QuickCount x, long v) {
        x.write(0, 1, v);
        return x.read(0, 1);
    }

    private static void writing(Edges edges) {
        Edge edge = edges.of(6, "A number comes to a place of a TRAY, cut to its sort (1, 3, 4).").with(Scenes::busy);
        edge.done("the first place", x -> x.write(2, 0, 9)).done("the last place", x -> x.write(2, 2, 9))
            .done("cut", x -> x.write(2, 1, Long.MIN_VALUE));
        edge.with(x -> x.write(2, 1, 300)).taken("cut to 8 bits", x -> x.read(2, 1), 44)
            .taken("the place ahead stays", x -> x.read(2, 0), -1).taken("the place behind stays", x -> x.read(2, 2), 3);
        for (int place : new int[] {-1, 3, LEAST, MOST}) {
            edge.refused("place " + place, x -> x.write(2, place, 9), 4);
        }
        for (int tray : new int[] {-1, 4, LEAST, MOST}) {
            edge.refused("tray " + tray, x -> x.write(tray, 0, 9), 1);
            edge.refused("tray " + tray + " is asked ahead of the place", x -> x.write(tray, -1, 9), 1);
        }
        edge.refused("missing", x -> x.write(3, 0, 9), 3)
            .refused("missing is asked ahead of the place", x -> x.write(3, 20, 9), 3)
            .with(x -> x.tray(3, 2, 0)).refused("an empty row", x -> x.write(3, 0, 9), 4);
    }

    private static void reading(Edges edges) {
        Edge edge = edges.of(7, "The number in a place of a TRAY; STATUS tells NONE from -1 (1, 3, 4).").with(Scenes::busy);
        edge.taken("-1 in the first place", x -> x.read(2, 0), -1).taken("the last place", x -> x.read(2, 2), 3);
        for (int place : new int[] {-1, 3, LEAST, MOST}) {
            edge.refused("place " + place, x -> x.read(2, place), 4);
        }
        for (int tray : new int[] {-1, 4, LEAST, MOST}) {
            edge.refused("tray " + tray, x -> x.read(tray, 0), 1);
            edge.refused("tray " + tray + " is asked ahead of the place", x -> x.read(tray, -1), 1);
        }
        edge.refused("missing", x -> x.read(3, 0), 3)
            .refused("missing is asked ahead of the place", x -> x.read(3, 20), 3)
            .with(x -> x.tray(3, 2, 0)).refused("an empty row", x -> x.read(3, 0), 4);
    }

    private static final String POUR = "So many numbers of a TRAY, from a place on, come to another one's (or its own) place on, "
        + "as they were (1: below 0, too; 3; 8; 4; asked in this order).";

    /** TRAY 0 with 1 to 5, TRAY 1 with 6 to 8, both of 32 bits; TRAY 2 of 64; TRAY 3 is MISSING. */
    private static void threeTrays(QuickCount x) {
        Check.fill(x, 0, 1, 2, 3, 4, 5);
        Check.fill(x, 1, 6, 7, 8);
        x.tray(2, 3, 5);
    }

    private static void pouring(Edges edges) {
        Edge edge = edges.of(8, POUR).with(TrayEdges::threeTrays);
        edge.taken("to the last place", x -> row(x, 1, x.pour(0, 0, 1, 2, 1)), 671)
            .refused("one beyond it", x -> x.pour(0, 0, 1, 3, 1), 4)
            .taken("from the last place", x -> row(x, 1, x.pour(0, 4, 1, 0, 1)), 578)
            .refused("from one beyond it", x -> x.pour(0, 5, 1, 0, 1), 4)
            .taken("as many as there are", x -> row(x, 1, x.pour(0, 2, 1, 0, 3)), 345)
            .refused("one more than the one has", x -> x.pour(0, 3, 1, 0, 3), 4)
            .refused("one more than the other has", x -> x.pour(0, 0, 1, 0, 4), 4)
            .taken("none", x -> row(x, 1, x.pour(0, 0, 1, 0, 0)), 678)
            .taken("none at both ends", x -> row(x, 1, x.pour(0, 5, 1, 3, 0)), 678)
            .refused("none from beyond the end", x -> x.pour(0, 6, 1, 0, 0), 4)
            .refused("none to beyond the end", x -> x.pour(0, 0, 1, 4, 0), 4)
            .taken("its own, onward, as they were", x -> row(x, 0, x.pour(0, 0, 0, 1, 4)), 11234)
            .taken("its own, backward, as they were", x -> row(x, 0, x.pour(0, 1, 0, 0, 4)), 23455)
            .taken("its own, where they are", x -> row(x, 0, x.pour(0, 0, 0, 0, 5)), 12345)
            .refused("its own, one too many", x -> x.pour(0, 0, 0, 1, 5), 4)
            .taken("the one poured from stays", x -> row(x, 0, x.pour(0, 2, 1, 0, 3)), 12345)
            .refused("a place and so many that leave an int", x -> x.pour(0, MOST, 1, 0, MOST), 4)
            .refused("at and so many that leave an int", x -> x.pour(0, 0, 1, MOST, 1), 4);
        edge.with(x -> {
            x.tray(0, 1, 20);
            x.tray(3, 1, 20);
            x.write(0, 19, -32768);
            x.pour(0, 0, 3, 0, 20);
        }).taken("20 numbers", x -> x.read(3, 19), -32768);
    }

    /** The numbers of a TRAY, one figure each, if they were poured. */
    private static long row(QuickCount x, int tray, boolean poured) {
        long row = poured ? 0 : -1;
        for (int i = 0; i < (tray == 0 ? 5 : 3); i++) {
            row = row * 10 + x.read(tray, i);
        }
        return row;
    }

    private static void pouringOrder(Edges edges) {
        Edge edge = edges.of(8, POUR).with(TrayEdges::threeTrays);
        int[][] wrong = {{-1, 0, 1, 0, 1}, {4, 0, 1, 0, 1}, {0, 0, -1, 0, 1}, {0, 0, 4, 0, 1}, {0, -1, 1, 0, 1},
            {0, 0, 1, -1, 1}, {0, 0, 1, 0, -1}, {LEAST, 0, 1, 0, 1}, {0, 0, MOST, 0, 1}, {0, LEAST, 1, 0, 1},
            {0, 0, 1, LEAST, 1}, {0, 0, 1, 0, LEAST}, {0, 1, 1, 1, -1}};
        for (int[] w : wrong) {
            edge.refused("pour " + w[0] + ", " + w[1] + ", " + w[2] + ", " + w[3] + ", " + w[4],
                x -> x.pour(w[0], w[1], w[2], w[3], w[4]), 1);
        }
        edge.refused("from is missing", x -> x.pour(3, 0, 1, 0, 1), 3)
            .refused("to is missing", x -> x.pour(0, 0, 3, 0, 1), 3)
            .refused("below 0, ahead of missing", x -> x.pour(3, -1, 1, 0, 1), 1)
            .refused("no tray, ahead of missing", x -> x.pour(3, 0, 4, 0, 1), 1)
            .refused("below 0, ahead of unlike sorts", x -> x.pour(0, 0, 2, 0, -1), 1)
            .refused("below 0, ahead of a place that isn't", x -> x.pour(0, 9, 1, -1, 9), 1)
            .refused("missing, ahead of a place that isn't", x -> x.pour(0, 9, 3, 9, 9), 3)
            .refused("unlike sorts", x -> x.pour(0, 0, 2, 0, 1), 8)
            .refused("unlike sorts, none of them", x -> x.pour(0, 0, 2, 0, 0), 8)
            .refused("unlike sorts, ahead of a place that isn't", x -> x.pour(2, 9, 0, 9, 9), 8);
        for (int sort = 0; sort < 4; sort++) {
            int s = sort;
            edge.with(x -> x.tray(1, 1, 3)).with(x -> x.tray(3, s, 3))
                .asks("sort 1 to sort " + s, x -> x.pour(1, 0, 3, 0, 3), s == 1 ? 1 : 0)
                .asks("sort 1 to sort " + s, x -> x.pour(1, 0, 3, 0, 3) ? 0 : x.status(), s == 1 ? 0 : 8);
        }
    }
}
