/** Promises 9 to 13 at their edges. */
final class PollEdges {
    private static final int LEAST = Integer.MIN_VALUE;
    private static final int MOST = Integer.MAX_VALUE;

    private PollEdges() {
    }

    static void run(Edges edges) {
        parties(edges);
        partiesTooLate(edges);
        layers(edges);
        polls(edges);
        draws(edges);
        below(edges);
        lots(edges);
        drawAnew(edges);
        told(edges);
        chance(edges);
    }

    private static void parties(Edges edges) {
        Edge edge = edges.of(9, "PARTIES: 2 to 4 (2 at first).").with(x -> x.poll(0, 10));
        edge.taken("2 at first", x -> x.lean(1, 0), 1).refused("no third", x -> x.lean(2, 0), 1);
        for (int many = 2; many <= 4; many++) {
            int m = many;
            edge.done("parties " + m, x -> x.parties(m));
            edge.with(x -> x.parties(m)).taken("the last of " + m, x -> x.lean(m - 1, 0), 1)
                .refused("one more than " + m, x -> x.lean(m, 0), 1);
        }
        for (int many : new int[] {1, 5, 0, -1, LEAST, MOST}) {
            edge.refused("parties " + many, x -> x.parties(many), 1);
        }
    }

    private static void partiesTooLate(Edges edges) {
        Edge edge = edges.of(9, "So many PARTIES (1; 7: there are SHEETS, or OFFICIAL numbers already).").with(x -> {
            x.poll(0, 10);
            x.draw(0, 1, 1);
            x.habit(1, 7, true);
            x.sheet(0, 0, 0);
            x.official(0, 0);
        });
        edge.done("refused sheets and official numbers are none", x -> x.parties(4));
        Edge sheet = edge.with(x -> Check.sheet(x, 0, 0, 1, 1, 0, 9));
        sheet.refused("a sheet, not a good one", x -> x.parties(4), 7).refused("as many as there are", x -> x.parties(2), 7)
            .refused("a number that can't be is asked first", x -> x.parties(5), 1)
            .refused("a number that can't be is asked first", x -> x.parties(1), 1);
        Edge official = edge.with(x -> Check.official(x, 0, 0, 0));
        official.refused("official numbers", x -> x.parties(3), 7).refused("as many as there are", x -> x.parties(2), 7)
            .refused("a number that can't be is asked first", x -> x.parties(5), 1);
    }

    private static void layers(Edges edges) {
        Edge edge = edges.of(10, "LAYERS 0 to 3.").with(Scenes::busy);
        edge.taken("the first", x -> x.poll(0, 5), 7).taken("the last", x -> x.poll(3, 5), 7);
        Edge draw = edges.of(11, "LAYERS 0 to 3.").with(Scenes::busy).with(x -> x.poll(3, 5));
        draw.done("the first", x -> x.draw(0, 1, 1)).done("the last", x -> x.draw(3, 1, 1));
        for (int layer : new int[] {-1, 4, LEAST, MOST}) {
            edge.refused("poll of layer " + layer, x -> x.poll(layer, 5), 1);
            draw.refused("draw of layer " + layer, x -> x.draw(layer, 1, 1), 1);
        }
    }

    private static void polls(Edges edges) {
        Edge roll = edges.of(10, "each of a LAYER, with a ROLL (1 to 2,000).").with(Scenes::busy);
        roll.taken("1", x -> x.poll(1, 1), 7).taken("2,000", x -> x.poll(1, 2000), 7);
        roll.with(x -> x.poll(1, 2000)).taken("its layer", x -> x.told(7, 0), 1).taken("its roll", x -> x.told(7, 1), 2000);
        for (int r : new int[] {0, 2001, -1, LEAST, MOST}) {
            roll.refused("roll " + r, x -> x.poll(1, r), 1);
        }
        Edge most = edges.of(10, "POLLS, at most 40, numbered as they come:").with(Scenes.polls(39, 2, 7));
        most.taken("the 40th", x -> x.poll(3, 8), 39).taken("none of its number yet", x -> x.told(38, 0), 2)
            .refused("none of its number yet", x -> x.told(39, 0), 1);
        Edge full = most.with(x -> x.poll(3, 8));
        full.refused("the 41st", x -> x.poll(2, 7), 7).taken("the last", x -> x.told(39, 0), 3)
            .taken("the first", x -> x.told(0, 1), 7).refused("no 41st", x -> x.told(40, 0), 1);
        Edge asked = edges.of(10, "A POLL more: its number (1, 7).").with(Scenes.polls(40, 0, 7));
        asked.refused("one too many", x -> x.poll(0, 2000), 7)
            .refused("the roll is asked first", x -> x.poll(0, 2001), 1)
            .refused("the roll is asked first", x -> x.poll(0, 0), 1)
            .refused("the layer is asked first", x -> x.poll(4, 7), 1);
    }

    private static void draws(Edges edges) {
        Edge edge = edges.of(11, "A DRAW of a LAYER takes so many of its POLLS (1 to all it has) from a SEED (0 to 2,147,483,647):")
            .with(Scenes::busy);
        edge.done("1", x -> x.draw(0, 1, 5)).done("all", x -> x.draw(0, 4, 5)).done("seed 0", x -> x.draw(0, 2, 0))
            .done("the highest seed", x -> x.draw(0, 2, 2147483647));
        edge.with(x -> x.draw(0, 4, 5)).taken("all are drawn", x -> drawnOf(x, 0, 4), 1111);
        edge.with(x -> x.draw(0, 1, 5)).taken("1 is drawn", x -> x.layer(0, 0, 0), 1);
        for (int many : new int[] {0, 5, -1, LEAST, MOST}) {
            edge.refused("so many: " + many, x -> x.draw(0, many, 5), 1);
        }
        for (int seed : new int[] {-1, LEAST}) {
            edge.refused("seed " + seed, x -> x.draw(0, 1, seed), 1);
        }
        edges.of(11, "A DRAW (1: also more than it has POLLS).").with(Scenes::busy)
            .refused("one more than layer 0 has", x -> x.draw(0, 5, 1), 1)
            .refused("one more than layer 2 has", x -> x.draw(2, 2, 1), 1)
            .refused("layer 3 has none", x -> x.draw(3, 1, 1), 1)
            .refused("none of none", x -> x.draw(3, 0, 1), 1)
            .with(x -> x.poll(0, 9)).done("with one poll more", x -> x.draw(0, 5, 1))
            .refused("one more than these", x -> x.draw(0, 6, 1), 1);
    }

    /** LOTS from SEED 1 are 16838, 5758, 10113, 17515; from SEED 3 17747, 7107. */
    private static void below(Edges edges) {
        Edge edge = edges.of(11, "from the first to the last of them, one is DRAWN, if LOT, rest m, is below h, where m are left "
            + "(it too), and h are to be DRAWN still.");
        Edge ten = edge.with(Scenes.polls(10, 1, 5));
        ten.with(x -> x.draw(1, 8, 1)).taken("8 is not below 8", x -> x.told(0, 2), 0);
        ten.with(x -> x.draw(1, 9, 1)).taken("8 is below 9", x -> x.told(0, 2), 1);
        Edge two = edge.with(Scenes.polls(2, 1, 5));
        two.with(x -> x.draw(1, 1, 3)).taken("1 is not below 1, then the last one is wanted", x -> drawnOf(x, 0, 2), 1);
        two.with(x -> x.draw(1, 1, 1)).taken("0 is below 1, then none is wanted", x -> drawnOf(x, 0, 2), 10);
        edge.with(Scenes.polls(1, 1, 5)).with(x -> x.draw(1, 1, 1)).taken("one of one", x -> x.told(0, 2), 1);
        ten.with(x -> x.draw(1, 3, 1)).taken("3 of 10", x -> drawnOf(x, 0, 10), 11000100L);
        edge.with(x -> {
            for (int i = 0; i < 10; i++) {
                x.poll(0, 5);
                x.poll(1, 5);
            }
            x.draw(1, 3, 1);
        }).taken("polls of other layers take no lot", x -> drawnOf(x, 1, 10, 2), 11000100L)
            .taken("and none of them is drawn", x -> drawnOf(x, 0, 10, 2), 0);
    }

    /** Whether each of so many POLLS is DRAWN, a figure each. */
    private static long drawnOf(QuickCount x, int first, int many) {
        return drawnOf(x, first, many, 1);
    }

    private static long drawnOf(QuickCount x, int first, int many, int step) {
        long drawn = 0;
        for (int i = 0; i < many; i++) {
            drawn = drawn * 10 + x.told(first + i * step, 2);
        }
        return drawn;
    }

    /** 20 of 40, worked out apart; the SEED wraps in the first step from 2,147,483,647. */
    private static void lots(Edges edges) {
        Edge edge = edges.of(11, "LOT: the SEED becomes 1,103,515,245 times itself and 12,345, of that the lower 31 bits, and LOT is "
            + "that by 65,536, rounded down.").with(Scenes.polls(40, 2, 5));
        int[] seeds = {0, 1, 2147483646, 2147483647};
        String[] drawn = {"1100100101001111001101101000101100001101", "0011000000011010110111011011001110010101",
            "1010011111010000000101011100011100110011", "1101101010000100011011110101001110110000"};
        for (int i = 0; i < seeds.length; i++) {
            int seed = seeds[i];
            for (int poll = 0; poll < 40; poll++) {
                int p = poll;
                edge.with(x -> x.draw(2, 20, seed)).taken("seed " + seed + ", poll " + p, x -> x.told(p, 2), drawn[i].charAt(p) - '0');
            }
        }
    }

    private static void drawAnew(Edges edges) {
        Edge edge = edges.of(11, "A new DRAW of a LAYER takes the place of its old one; POLLS that come to it later are not DRAWN.")
            .with(Scenes::busy);
        edge.taken("the old one", x -> drawnOf(x, 0, 4), 1101);
        edge.with(x -> x.draw(0, 1, 3)).taken("the new one", x -> drawnOf(x, 0, 4), 100)
            .taken("so many of it", x -> x.layer(0, 0, 0), 1).taken("another layer stays", x -> drawnOf(x, 4, 2), 11)
            .tells("its chance", x -> x.chance(0), 1, 1, 4);
        Edge later = edge.with(x -> x.poll(0, 9));
        later.taken("a later poll", x -> x.told(7, 2), 0).taken("had at the draw", x -> x.layer(0, 2, 0), 4)
            .taken("the others stay", x -> drawnOf(x, 0, 4), 1101);
        later.with(x -> x.draw(0, 5, 1)).taken("with a new draw", x -> x.told(7, 2), 1)
            .taken("had at the draw", x -> x.layer(0, 2, 0), 5);
    }

    private static void told(Edges edges) {
        Edge edge = edges.of(12, "Of a POLL, what 0: its LAYER, 1: ROLL, 2: whether it is DRAWN (1, 0) (1).").with(Scenes::busy);
        edge.taken("layer of the first", x -> x.told(0, 0), 0).taken("layer of the last", x -> x.told(6, 0), 2)
            .taken("roll of the first", x -> x.told(0, 1), 100).taken("roll of the last", x -> x.told(6, 1), 20)
            .taken("drawn", x -> x.told(0, 2), 1).taken("not drawn", x -> x.told(2, 2), 0)
            .taken("without a draw", x -> x.told(6, 2), 0);
        int[][] wrong = {{-1, 0}, {7, 0}, {LEAST, 0}, {MOST, 0}, {0, -1}, {0, 3}, {0, LEAST}, {0, MOST}, {7, 3}};
        for (int[] w : wrong) {
            edge.refused("told " + w[0] + ", " + w[1], x -> x.told(w[0], w[1]), 1);
        }
    }

    private static void chance(Edges edges) {
        Edge edge = edges.of(13, "CHANCE of a POLL: how many of its LAYER were DRAWN by how many it had at the DRAW: a FRACTION "
            + "(0 by 1 without a DRAW, or if it came later).").with(Scenes::busy);
        edge.tells("one that is drawn", x -> x.chance(0), 1, 3, 4).tells("one that is not", x -> x.chance(2), 1, 3, 4)
            .tells("all drawn", x -> x.chance(5), 1, 1, 1).tells("without a draw", x -> x.chance(6), 0, 0, 1);
        edge.with(x -> x.poll(0, 9)).tells("one that came later", x -> x.chance(7), 0, 0, 1)
            .tells("the last at the draw", x -> x.chance(3), 1, 3, 4)
            .with(x -> x.draw(0, 4, 1)).tells("drawn anew", x -> x.chance(7), 1, 4, 5);
        edge.with(x -> x.draw(0, 2, 1)).tells("without a common divisor", x -> x.chance(1), 1, 1, 2);
        Edge forty = edges.of(13, "The FRACTION is CHANCE: 1 if it is above 0, else 0 (1).").with(Scenes.polls(40, 3, 5));
        forty.tells("0", x -> x.chance(39), 0, 0, 1);
        forty.with(x -> x.draw(3, 1, 1)).tells("the least above 0", x -> x.chance(39), 1, 1, 40);
        forty.with(x -> x.draw(3, 39, 1)).tells("nearly all", x -> x.chance(0), 1, 39, 40);
        Edge refused = edges.of(13, "The FRACTION is CHANCE: 1 if it is above 0, else 0 (1).").with(Scenes::busy);
        for (int poll : new int[] {-1, 7, LEAST, MOST}) {
            refused.refused("poll " + poll, x -> x.chance(poll), 1);
        }
    }
}
