/** Promises 14 to 19 at their edges. */
final class SheetEdges {
    private static final int LEAST = Integer.MIN_VALUE;
    private static final int MOST = Integer.MAX_VALUE;
    private static final String SLIP = "one figure of one number (without figures ahead of its first one; 0 is the figure 0) that, "
        + "taken for another one by a HABIT, makes the SHEET GOOD;";

    private SheetEdges() {
    }

    static void run(Edges edges) {
        sheetsAtMost(edges);
        minutes(edges);
        numbers(edges);
        firstNumbers(edges);
        sheetOrder(edges);
        good(edges);
        habits(edges);
        slipFigures(edges);
        slipsToldBy(edges);
        slipsMakeGood(edges);
        slipRefusals(edges);
        known(edges);
        layers(edges);
    }

    private static void sheetsAtMost(Edges edges) {
        Edge edge = edges.of(14, "SHEETS, at most 120, numbered as they come:").with(x -> {
            x.poll(0, 10);
            x.poll(0, 10);
            Check.fill(x, 0, 1, 1, 0, 2);
            for (int i = 0; i < 119; i++) {
                x.sheet(0, 0, i);
            }
        });
        edge.taken("the 120th", x -> x.sheet(1, 0, 119), 119).taken("the 119th", x -> x.good(118), 1)
            .refused("no 120th yet", x -> x.good(119), 1);
        edge.with(x -> x.sheet(1, 0, 119)).refused("the 121st", x -> x.sheet(1, 0, 119), 7)
            .refused("the 121st, of a later minute", x -> x.sheet(0, 0, 10000), 7)
            .taken("the last is known", x -> x.known(1, 10000), 119).taken("the first", x -> x.known(0, 0), 0)
            .refused("no 121st", x -> x.good(120), 1);
        Edge six = edges.of(14, "SHEETS, at most 120, numbered as they come:").with(x -> {
            x.parties(4);
            x.poll(0, 10);
            x.habit(5, 6, true);
            Check.fill(x, 0, 1, 1, 1, 1, 1, 6, 9);
            for (int i = 0; i < 120; i++) {
                x.sheet(0, 0, 0);
            }
        });
        for (int sheet : new int[] {0, 1, 118, 119}) {
            six.taken("six numbers of sheet " + sheet, x -> x.slip(sheet, 0), 505);
        }
        six.refused("the 121st of six numbers", x -> x.sheet(0, 0, 0), 7);
    }

    private static void minutes(Edges edges) {
        Edge edge = edges.of(14, "of a POLL, read at a minute (0 to 10,000; they never go back):").with(x -> {
            x.poll(0, 10);
            Check.fill(x, 0, 1, 1, 0, 2);
        });
        edge.taken("minute 0", x -> x.sheet(0, 0, 0), 0).taken("minute 10,000", x -> x.sheet(0, 0, 10000), 0);
        for (int minute : new int[] {-1, 10001, LEAST, MOST}) {
            edge.refused("minute " + minute, x -> x.sheet(0, 0, minute), 1);
        }
        Edge later = edge.with(x -> x.sheet(0, 0, 20));
        later.taken("the same minute", x -> x.sheet(0, 0, 20), 1).taken("one later", x -> x.sheet(0, 0, 21), 1)
            .refused("one ahead of it", x -> x.sheet(0, 0, 19), 2).refused("minute 0", x -> x.sheet(0, 0, 0), 2)
            .refused("no minute, not one that is gone", x -> x.sheet(0, 0, -1), 1);
        later.with(x -> {
            x.sheet(0, 3, 25);
            x.known(0, 10000);
            x.layer(0, 1, 10000);
            x.lean(0, 10000);
        }).taken("neither a refused sheet nor a question moves it", x -> x.sheet(0, 0, 20), 1)
            .refused("nor back", x -> x.sheet(0, 0, 19), 2);
        edge.with(x -> x.sheet(0, 0, 10000)).taken("the last minute again", x -> x.sheet(0, 0, 10000), 1)
            .refused("the one ahead of it", x -> x.sheet(0, 0, 9999), 2);
        edge.with(x -> x.sheet(0, 0, 0)).taken("minute 0 again", x -> x.sheet(0, 0, 0), 1);
        edge.with(x -> Check.sheet(x, 0, 20, 1, 1, 0, 9))
            .refused("one that isn't good moves it too", x -> x.sheet(0, 0, 19), 2);
    }

    private static void numbers(Edges edges) {
        for (int parties = 2; parties <= 4; parties++) {
            int p = parties;
            Edge edge = edges.of(14, "votes of each PARTY, VOID ones, and ALL (0 to 9,999 each).").with(x -> {
                x.parties(p);
                x.poll(0, 2000);
                x.tray(0, 3, p + 2);
            });
            for (int number = 0; number < p + 2; number++) {
                int n = number;
                String what = "number " + n + " with " + p + " parties, ";
                edge.taken(what + "0", x -> readWith(x, n, 0), 0).taken(what + "9,999", x -> readWith(x, n, 9999), 0);
                long[] wrong = {-1, 10000, 4294967296L, Long.MIN_VALUE, Long.MAX_VALUE};
                for (long v : wrong) {
                    edge.with(x -> x.write(0, n, v)).refused(what + v, x -> x.sheet(0, 0, 3), 1);
                }
            }
        }
    }

    private static int readWith(QuickCount x, int number, long v) {
        x.write(0, number, v);
        return x.sheet(0, 0, 0);
    }

    private static void firstNumbers(Edges edges) {
        String words = "A SHEET more, by the first numbers of a TRAY: of each PARTY, VOID, ALL: its number; whether it is GOOD, "
            + "good() tells";
        for (int parties = 2; parties <= 4; parties++) {
            int p = parties;
            Edge edge = edges.of(14, words).with(x -> {
                x.parties(p);
                x.poll(0, 10);
            });
            edge.with(x -> x.tray(2, 0, p + 2)).taken(p + " parties, enough", x -> x.sheet(0, 2, 0), 0);
            edge.with(x -> x.tray(2, 0, p + 1)).refused(p + " parties, one too few", x -> x.sheet(0, 2, 0), 4);
            edge.with(x -> x.tray(2, 0, 0)).refused(p + " parties, an empty row", x -> x.sheet(0, 2, 0), 4);
            edge.with(x -> {
                x.tray(2, 1, 20);
                x.write(2, p + 2, -1);
                x.write(2, 19, 10000);
            }).taken("what stands behind isn't looked at", x -> x.sheet(0, 2, 0), 0);
            edge.with(x -> {
                x.tray(2, 1, p + 3);
                for (int i = 0; i <= p; i++) {
                    x.write(2, i, 1);
                }
                x.write(2, p + 1, p + 1);
                x.write(2, p + 2, 5);
                x.sheet(0, 2, 0);
                x.write(2, 0, 2);
                x.sheet(0, 2, 0);
            }).taken("the one before the tray changed", x -> x.good(0), 1).taken("the one after it", x -> x.good(1), 0);
        }
    }

    private static void sheetOrder(Edges edges) {
        String words = "(1: TRAY, POLL, minute; 2; 3; 4; 1: the numbers; 7; asked in this order).";
        Edge edge = edges.of(14, words).with(Scenes::busy);
        for (int w : new int[] {-1, 4, LEAST, MOST}) {
            edge.refused("tray " + w, x -> x.sheet(0, w, 7), 1).refused("tray " + w + ", ahead of gone", x -> x.sheet(0, w, 6), 1);
        }
        for (int w : new int[] {-1, 7, LEAST, MOST}) {
            edge.refused("poll " + w, x -> x.sheet(w, 0, 7), 1).refused("poll " + w + ", ahead of gone", x -> x.sheet(w, 3, 6), 1);
        }
        edge.refused("no minute, ahead of missing", x -> x.sheet(0, 3, 10001), 1)
            .refused("no minute, ahead of gone", x -> x.sheet(0, 3, -1), 1)
            .refused("gone", x -> x.sheet(0, 0, 6), 2)
            .refused("gone, ahead of missing", x -> x.sheet(0, 3, 6), 2)
            .refused("gone, ahead of too few", x -> x.sheet(0, 1, 6), 2)
            .refused("missing", x -> x.sheet(0, 3, 7), 3)
            .refused("too few", x -> x.sheet(0, 1, 7), 4)
            .refused("too few, ahead of the numbers", x -> x.sheet(0, 2, 7), 4);
        Edge wrong = edge.with(x -> x.write(0, 4, 10000));
        wrong.refused("gone, ahead of the numbers", x -> x.sheet(0, 0, 6), 2).refused("the numbers", x -> x.sheet(0, 0, 7), 1);
        Edge full = edges.of(14, words).with(x -> {
            x.poll(0, 10);
            Check.fill(x, 0, 1, 1, 0, 2);
            for (int i = 0; i < 120; i++) {
                x.sheet(0, 0, 5);
            }
            x.tray(1, 2, 3);
            Check.fill(x, 2, 1, 1, -1, 2);
        });
        full.refused("one too many", x -> x.sheet(0, 0, 5), 7).refused("the numbers, ahead of it", x -> x.sheet(0, 2, 5), 1)
            .refused("too few, ahead of it", x -> x.sheet(0, 1, 5), 4).refused("missing, ahead of it", x -> x.sheet(0, 3, 5), 3)
            .refused("gone, ahead of it", x -> x.sheet(0, 0, 4), 2).refused("no poll, ahead of it", x -> x.sheet(1, 0, 5), 1);
    }

    private static void good(Edges edges) {
        Edge edge = edges.of(15, "A SHEET is GOOD, if votes and VOID together are ALL, and ALL is not above the ROLL.");
        int[] rolls = {1, 9, 2000};
        for (int roll : rolls) {
            Edge with = edge.with(x -> x.poll(0, roll));
            with.taken("all at the roll " + roll, x -> x.good(Check.sheet(x, 0, 0, roll, 0, 0, roll)), 1)
                .taken("all one above the roll " + roll, x -> x.good(Check.sheet(x, 0, 0, roll, 0, 1, roll + 1)), 0)
                .taken("no votes", x -> x.good(Check.sheet(x, 0, 0, 0, 0, 0, 0)), 1)
                .taken("one vote more than all", x -> x.good(Check.sheet(x, 0, 0, 1, 0, 0, 0)), 0)
                .taken("one vote less than all", x -> x.good(Check.sheet(x, 0, 0, roll - 1, 0, 0, roll)), 0)
                .taken("a void one more than all", x -> x.good(Check.sheet(x, 0, 0, 0, 0, 1, 0)), 0);
        }
        edge.with(x -> x.parties(4)).with(x -> x.poll(0, 2000))
            .taken("each party counts", x -> x.good(Check.sheet(x, 0, 0, 1, 10, 100, 1000, 5, 1116)), 1)
            .taken("9,999 five times", x -> x.good(Check.sheet(x, 0, 0, 9999, 9999, 9999, 9999, 9999, 9999)), 0);
        Edge asked = edges.of(15, "Whether a SHEET is GOOD: 1 or 0 (1).").with(Scenes::busy);
        asked.taken("the first", x -> x.good(0), 1).taken("one that isn't", x -> x.good(1), 0).taken("the last", x -> x.good(6), 1);
        for (int sheet : new int[] {-1, 7, LEAST, MOST}) {
            asked.refused("sheet " + sheet, x -> x.good(sheet), 1);
        }
    }

    private static void habits(Edges edges) {
        Edge edge = edges.of(16, "HABITS: pairs of figures (0 to 9) that are taken for one another (none at first).").with(x -> {
            x.poll(0, 10);
            Check.sheet(x, 0, 0, 0, 0, 0, 9);
            Check.sheet(x, 0, 0, 9, 0, 0, 0);
        });
        edge.refused("none at first", x -> x.slip(0, 0), 6).done("0 and 9", x -> x.habit(0, 9, true)).done("9 and 0", x -> x.habit(9, 0, true));
        edge.with(x -> x.habit(0, 9, true)).taken("one for the other", x -> x.slip(0, 0), 9).taken("and back", x -> x.slip(1, 0), 0);
        edge.with(x -> x.habit(9, 0, true)).taken("told the other way round", x -> x.slip(0, 0), 9);
        Edge told = edges.of(16, "Two figures are a HABIT, or no more (1: like ones, too).").with(Scenes::busy);
        int[][] wrong = {{-1, 0}, {0, -1}, {10, 0}, {0, 10}, {LEAST, 0}, {0, MOST}, {10, 10}, {-1, -1}};
        for (int[] w : wrong) {
            told.refused("habit " + w[0] + ", " + w[1], x -> x.habit(w[0], w[1], true), 1)
                .refused("no habit " + w[0] + ", " + w[1], x -> x.habit(w[0], w[1], false), 1);
        }
        for (int figure = 0; figure < 10; figure++) {
            int f = figure;
            told.refused("habit of " + f + " with itself", x -> x.habit(f, f, true), 1)
                .refused("no habit of " + f + " with itself", x -> x.habit(f, f, false), 1);
        }
        told.done("one that is one already", x -> x.habit(7, 1, true)).done("no more", x -> x.habit(1, 7, false))
            .done("none that was none", x -> x.habit(2, 3, false));
        told.with(x -> x.habit(7, 1, false)).refused("no more, told the other way round", x -> x.slip(4, 0), 6);
        told.with(x -> x.habit(7, 1, true)).taken("told twice is told once", x -> x.slip(4, 0), 1)
            .with(x -> x.habit(1, 7, false)).refused("and is no more", x -> x.slip(4, 0), 6);
        told.with(x -> x.habit(0, 8, false)).taken("another one stays", x -> x.slip(4, 0), 1);
    }

    /** A POLL with a ROLL of 2,000 and one SHEET of two PARTIES. */
    private static Edge.Calls sheet(int a, int b, int none, int all) {
        return x -> {
            x.poll(0, 2000);
            Check.sheet(x, 0, 0, a, b, none, all);
        };
    }

    private static Edge.Calls habit(int a, int b) {
        return x -> x.habit(a, b, true);
    }

    private static void slipFigures(Edges edges) {
        Edge edge = edges.of(17, SLIP);
        edge.with(habit(0, 1)).with(sheet(5, 0, 0, 15)).taken("no 0 ahead of 5 becomes 1: only all is mended", x -> x.slip(0, 0), 310)
            .refused("one only", x -> x.slip(0, 1), 6);
        edge.with(habit(0, 8)).with(sheet(0, 0, 0, 8)).taken("0 is the figure 0", x -> x.slip(0, 0), 8)
            .taken("of void too", x -> x.slip(0, 2), 208).refused("no more", x -> x.slip(0, 4), 6);
        edge.with(habit(0, 8)).with(sheet(0, 0, 0, 80)).taken("0 has one figure: only all is mended", x -> x.slip(0, 0), 310)
            .refused("one only", x -> x.slip(0, 1), 6);
        edge.with(habit(0, 8)).with(sheet(100, 1, 0, 181)).taken("a 0 within a number", x -> x.slip(0, 0), 18);
        edge.with(habit(1, 2)).with(sheet(1, 1, 0, 4)).refused("two figures are two slips", x -> x.slip(0, 0), 6);
        edge.with(habit(1, 7)).with(habit(7, 9)).with(sheet(1, 0, 0, 9)).refused("not by two habits in turn", x -> x.slip(0, 0), 6);
        edge.with(habit(1, 9)).with(sheet(1, 0, 0, 9)).taken("by one habit", x -> x.slip(0, 0), 9);
        edge.with(sheet(1, 0, 0, 9)).with(habit(1, 9)).taken("a habit told after the sheet", x -> x.slip(0, 0), 9);
        Edge zero = edges.of(17, "(A first figure may become 0.)").with(habit(0, 1));
        zero.with(sheet(11, 5, 0, 6)).taken("11 becomes 01", x -> x.slip(0, 0), 10);
        zero.with(sheet(1, 5, 0, 5)).taken("1 becomes 0", x -> x.slip(0, 0), 0);
        zero.with(sheet(10, 5, 0, 5)).taken("10 becomes 00", x -> x.slip(0, 0), 10);
        zero.with(sheet(100, 5, 0, 5)).taken("100 becomes 000", x -> x.slip(0, 0), 20);
        zero.with(sheet(1000, 5, 0, 5)).taken("1000 becomes 0000", x -> x.slip(0, 0), 30);
        zero.with(sheet(5, 5, 0, 1010)).taken("1010 becomes 0010", x -> x.slip(0, 0), 330);
    }

    private static void slipsToldBy(Edges edges) {
        Edge edge = edges.of(17, "told by 100 times the number (0 on for PARTIES, then VOID, then ALL), 10 times the place of the "
            + "figure (0 the last one), and the figure that it should be.");
        edge.with(habit(2, 3)).with(sheet(2222, 0, 0, 3222)).refused("above the roll", x -> x.slip(0, 0), 6);
        edge.with(habit(8, 3)).with(sheet(1118, 0, 0, 1113)).taken("place 0", x -> x.slip(0, 0), 3);
        edge.with(habit(8, 3)).with(sheet(1181, 0, 0, 1131)).taken("place 1", x -> x.slip(0, 0), 13);
        edge.with(habit(8, 3)).with(sheet(1811, 0, 0, 1311)).taken("place 2", x -> x.slip(0, 0), 23);
        edge.with(habit(8, 1)).with(sheet(8333, 0, 0, 1333)).taken("place 3, the first of four", x -> x.slip(0, 0), 31);
        edge.with(habit(8, 1)).with(sheet(1333, 0, 0, 8333)).taken("place 3 of all", x -> x.slip(0, 0), 331);
        edge.with(habit(9, 0)).with(sheet(9999, 0, 0, 999)).taken("9,999", x -> x.slip(0, 0), 30);
        edge.with(habit(9, 1)).with(sheet(1999, 0, 0, 9999)).taken("9,999 of all", x -> x.slip(0, 0), 331);
        for (int parties = 2; parties <= 4; parties++) {
            int p = parties;
            Edge each = edge.with(habit(5, 6)).with(x -> {
                x.parties(p);
                x.poll(0, 2000);
                x.tray(0, 1, p + 2);
                for (int i = 0; i <= p; i++) {
                    x.write(0, i, 5);
                }
                x.write(0, p + 1, 5 * (p + 1) + 1);
                x.sheet(0, 0, 0);
            });
            int last = 5 * (p + 1) % 10;
            for (int number = 0; number <= p; number++) {
                int n = number;
                each.taken("number " + n + " of " + p + " parties", x -> x.slip(0, n), 100 * n + 6);
            }
            if (last == 5) {
                each.taken("all of " + p + " parties", x -> x.slip(0, p + 1), 100 * (p + 1) + 5)
                    .refused("no more of " + p + " parties", x -> x.slip(0, p + 2), 6);
            } else {
                each.refused("no more of " + p + " parties", x -> x.slip(0, p + 1), 6);
            }
        }
    }

    private static void slipsMakeGood(Edges edges) {
        Edge edge = edges.of(17, SLIP);
        Edge.Calls hundred = x -> x.poll(0, 100);
        edge.with(hundred).with(habit(0, 8)).with(x -> Check.sheet(x, 0, 0, 80, 20, 0, 108))
            .taken("all mended to the roll", x -> x.slip(0, 0), 300).refused("that alone", x -> x.slip(0, 1), 6);
        edge.with(hundred).with(habit(1, 8)).with(x -> Check.sheet(x, 0, 0, 81, 20, 0, 108))
            .refused("all mended to one above the roll", x -> x.slip(0, 0), 6);
        edge.with(hundred).with(habit(1, 0)).with(x -> Check.sheet(x, 0, 0, 100, 1, 0, 100))
            .taken("votes mended, all at the roll", x -> x.slip(0, 0), 100);
        edge.with(hundred).with(habit(1, 0)).with(x -> Check.sheet(x, 0, 0, 101, 1, 0, 101))
            .refused("votes mended, all one above the roll", x -> x.slip(0, 0), 6);
        edge.with(hundred).with(habit(1, 0)).with(x -> Check.sheet(x, 0, 0, 101, 0, 0, 101))
            .refused("right but above the roll: one figure mends no two numbers", x -> x.slip(0, 0), 6);
        Edge other = edges.of(17, "A SLIP of a SHEET that isn't GOOD:").with(hundred).with(habit(1, 0));
        other.with(x -> Check.sheet(x, 0, 0, 10, 1, 0, 11)).refused("it is good", x -> x.slip(0, 0), 6);
        other.with(x -> x.poll(0, 10)).with(x -> Check.sheet(x, 1, 0, 10, 1, 0, 11))
            .taken("its own poll's roll counts", x -> x.good(0), 0).refused("none mends it", x -> x.slip(0, 0), 6);
    }

    private static void slipRefusals(Edges edges) {
        Edge edge = edges.of(17, "The k-th SLIP of a SHEET, by numbers (1; 6: k below 0, too; it is GOOD).").with(Scenes::busy);
        for (int k = 0; k < 4; k++) {
            int at = k;
            edge.taken("slip " + k, x -> x.slip(4, at), 100 * k + 1);
        }
        for (int k : new int[] {4, 5, -1, LEAST, MOST}) {
            edge.refused("slip " + k, x -> x.slip(4, k), 6).refused("slip " + k + " of a good one", x -> x.slip(0, k), 6);
        }
        edge.refused("a good one", x -> x.slip(0, 0), 6).refused("one that no habit mends", x -> x.slip(1, 0), 6);
        for (int sheet : new int[] {-1, 7, LEAST, MOST}) {
            edge.refused("sheet " + sheet, x -> x.slip(sheet, 0), 1)
                .refused("sheet " + sheet + " is asked first", x -> x.slip(sheet, -1), 1);
        }
    }

    private static void known(Edges edges) {
        Edge edge = edges.of(18, "KNOWN of a POLL at a minute is the GOOD SHEET read latest at it or ahead (of one minute the later number).")
            .with(x -> {
                Scenes.polls(3, 0, 10).on(x);
                Check.sheet(x, 0, 5, 1, 1, 0, 2);
                Check.sheet(x, 0, 5, 1, 2, 0, 3);
                Check.sheet(x, 1, 5, 1, 2, 0, 3);
                Check.sheet(x, 0, 5, 1, 2, 0, 4);
                Check.sheet(x, 0, 8, 5, 6, 0, 11);
                Check.sheet(x, 0, 9, 1, 1, 0, 2);
            });
        edge.refused("one minute ahead", x -> x.known(0, 4), 6).taken("at it, the later of two", x -> x.known(0, 5), 1)
            .taken("one above the roll is not known", x -> x.known(0, 8), 1).taken("a later one", x -> x.known(0, 9), 5)
            .taken("of another poll", x -> x.known(1, 9), 2).refused("a poll without a sheet", x -> x.known(2, 9), 6);
        edge.with(x -> Check.sheet(x, 2, 9, 1, 1, 0, 3)).refused("a poll with none that is good", x -> x.known(2, 9), 6);
        Edge asked = edges.of(18, "The SHEET that is KNOWN of a POLL at a minute (0 to 10,000) (1; 6).").with(Scenes::busy);
        asked.taken("minute 10,000", x -> x.known(0, 10000), 0).taken("the last poll with one", x -> x.known(5, 7), 5)
            .refused("minute 0", x -> x.known(0, 0), 6).refused("the last poll", x -> x.known(6, 10000), 6);
        for (int poll : new int[] {-1, 7, LEAST, MOST}) {
            asked.refused("poll " + poll, x -> x.known(poll, 7), 1);
        }
        for (int minute : new int[] {-1, 10001, LEAST, MOST}) {
            asked.refused("minute " + minute, x -> x.known(0, minute), 1)
                .refused("minute " + minute + " is asked first", x -> x.known(6, minute), 1);
        }
        edges.of(18, "The SHEET that is KNOWN of a POLL at a minute (0 to 10,000) (1; 6).").with(x -> {
            x.poll(0, 10);
            Check.sheet(x, 0, 0, 0, 0, 0, 0);
            Check.sheet(x, 0, 10000, 1, 0, 0, 1);
        }).taken("at minute 0", x -> x.known(0, 0), 0).taken("at minute 9,999", x -> x.known(0, 9999), 0)
            .taken("at minute 10,000", x -> x.known(0, 10000), 1);
    }

    private static void layers(Edges edges) {
        Edge edge = edges.of(19, "How many POLLS of a LAYER were DRAWN (what 0), of these KNOWN at a minute (1), how many it had at its "
            + "DRAW (2) (1; 6: no DRAW).").with(Scenes::busy);
        edge.taken("drawn", x -> x.layer(0, 0, 0), 3).taken("had", x -> x.layer(0, 2, 0), 4)
            .taken("none known yet", x -> x.layer(0, 1, 2), 0).taken("one at minute 3", x -> x.layer(0, 1, 3), 1)
            .taken("one more at minute 4", x -> x.layer(0, 1, 4), 2)
            .taken("poll 2 is known, but not drawn", x -> x.layer(0, 1, 10000), 2)
            .refused("no draw, what 0", x -> x.layer(2, 0, 0), 6).refused("no draw, what 1", x -> x.layer(2, 1, 7), 6)
            .refused("no draw, what 2", x -> x.layer(2, 2, 0), 6).refused("the last layer, without polls", x -> x.layer(3, 2, 0), 6);
        edge.with(x -> x.draw(2, 1, 1)).taken("with a draw", x -> x.layer(2, 1, 7), 0);
        edge.with(x -> x.poll(1, 9)).with(x -> Check.sheet(x, 7, 7, 1, 1, 1, 0, 3))
            .taken("a later poll is not among them", x -> x.layer(1, 1, 7), 2).taken("nor had", x -> x.layer(1, 2, 7), 2);
        for (int w : new int[] {-1, 4, LEAST, MOST}) {
            edge.refused("layer " + w, x -> x.layer(w, 0, 0), 1);
        }
        for (int w : new int[] {-1, 3, LEAST, MOST}) {
            edge.refused("what " + w, x -> x.layer(0, w, 0), 1).refused("what " + w + " is asked first", x -> x.layer(2, w, 0), 1);
        }
        for (int w : new int[] {-1, 10001, LEAST, MOST}) {
            for (int what = 0; what < 3; what++) {
                int of = what;
                edge.refused("minute " + w + ", what " + what, x -> x.layer(0, of, w), 1)
                    .refused("minute " + w + " is asked first", x -> x.layer(2, of, w), 1);
            }
        }
    }
}
