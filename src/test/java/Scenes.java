/** Calls that come ahead of those that a test asks about. */
final class Scenes {
    private Scenes() {
    }

    /**
     * 3 PARTIES; LAYER 0 with POLLS 0 to 3, of which 0, 1 and 3 are DRAWN; LAYER 1 with POLLS 4 and 5, both DRAWN;
     * LAYER 2 with POLL 6, no DRAW; SHEETS up to minute 7, of which 1 and 4 aren't GOOD; OFFICIAL numbers of
     * POLLS 0, 4 and 6; TRAY 3 is MISSING; the FRACTION is 3 by 4.
     */
    static void busy(QuickCount x) {
        x.parties(3);
        int[] rolls = {100, 80, 60, 40, 50, 30, 20};
        for (int i = 0; i < rolls.length; i++) {
            x.poll(i < 4 ? 0 : i < 6 ? 1 : 2, rolls[i]);
        }
        x.draw(0, 3, 1);
        x.draw(1, 2, 3);
        x.habit(1, 7, true);
        x.habit(0, 8, true);
        Check.sheet(x, 0, 3, 40, 30, 20, 5, 95);
        Check.sheet(x, 1, 3, 20, 10, 10, 0, 41);
        Check.sheet(x, 1, 4, 21, 20, 10, 0, 51);
        Check.sheet(x, 4, 5, 10, 20, 5, 1, 36);
        Check.sheet(x, 5, 6, 7, 7, 7, 7, 22);
        Check.sheet(x, 5, 7, 9, 8, 7, 1, 25);
        Check.sheet(x, 2, 7, 30, 10, 5, 0, 45);
        Check.official(x, 0, 41, 30, 18);
        Check.official(x, 4, 10, 21, 5);
        Check.official(x, 6, 5, 5, 5);
        x.tray(1, 3, 2);
        x.tray(2, 0, 3);
        x.write(2, 0, -1);
        x.write(2, 1, 2);
        x.write(2, 2, 3);
        x.chance(0);
    }

    /** So many POLLS of one LAYER, with like ROLLS. */
    static Edge.Calls polls(int many, int layer, int roll) {
        return x -> {
            for (int i = 0; i < many; i++) {
                x.poll(layer, roll);
            }
        };
    }

    /** TRAY 0 of 64 bits with these numbers. */
    static Edge.Calls wide(long... numbers) {
        return x -> {
            x.tray(0, 3, numbers.length);
            for (int i = 0; i < numbers.length; i++) {
                x.write(0, i, numbers[i]);
            }
        };
    }
}
