import java.util.ArrayList;
import java.util.List;

/**
 * Finds what a call changes: two objects after the same calls, the one with that call more, are asked the same
 * questions. Each round of questions has new twins, so that none of them is used for more than 512 calls.
 */
final class Twins {
    private static final int ROUND = 60;
    private static final int[] MINUTES = {0, 3, 5, 7, 10000};
    private static final List<List<Edge.Ask>> ROUNDS = new ArrayList<>();

    static {
        List<Edge.Ask> reading = new ArrayList<>();
        askTrays(reading);
        askPolls(reading);
        askSheets(reading);
        askLand(reading);
        askOfficials(reading);
        for (int i = 0; i < reading.size(); i += ROUND) {
            ROUNDS.add(reading.subList(i, Math.min(i + ROUND, reading.size())));
        }
        ROUNDS.add(sortsOfTrays());
        ROUNDS.add(manyOfParties());
        ROUNDS.add(manyOfPolls());
        ROUNDS.add(minuteOfSheets());
        for (int a = 0; a < 9; a += 3) {
            ROUNDS.add(habitsFrom(a, a + 3));
        }
    }

    private Twins() {
    }

    /** What shows that the call changes more than STATUS, or null. */
    static String change(Edge.Calls scene, Edge.Ask call) {
        for (List<Edge.Ask> round : ROUNDS) {
            QuickCount one = new QuickCount();
            QuickCount other = new QuickCount();
            scene.on(one);
            scene.on(other);
            call.of(other);
            String change = changeIn(one, other, round);
            if (change != null) {
                return change;
            }
        }
        return null;
    }

    private static String changeIn(QuickCount one, QuickCount other, List<Edge.Ask> round) {
        if (one.top() != other.top() || one.bottom() != other.bottom()) {
            return "the fraction to " + other.top() + " by " + other.bottom();
        }
        for (int i = 0; i < round.size(); i++) {
            String was = seen(one, round.get(i));
            String is = seen(other, round.get(i));
            if (!was.equals(is)) {
                return "question " + i + " of round " + ROUNDS.indexOf(round) + " from " + was + " to " + is;
            }
        }
        return null;
    }

    private static String seen(QuickCount x, Edge.Ask ask) {
        return Edge.number(ask.of(x)) + " (status " + x.status() + ", fraction " + x.top() + " by " + x.bottom() + ")";
    }

    private static void askTrays(List<Edge.Ask> asks) {
        for (int tray = 0; tray < 4; tray++) {
            for (int place = 0; place <= 20; place++) {
                int t = tray;
                int p = place;
                asks.add(x -> x.read(t, p));
            }
        }
    }

    private static void askPolls(List<Edge.Ask> asks) {
        for (int poll = 0; poll <= 40; poll++) {
            int p = poll;
            for (int what = 0; what < 3; what++) {
                int w = what;
                asks.add(x -> x.told(p, w));
            }
            asks.add(x -> x.chance(p));
            for (int minute : MINUTES) {
                asks.add(x -> x.known(p, minute));
            }
        }
        for (int layer = 0; layer < 4; layer++) {
            for (int what = 0; what < 3; what++) {
                int l = layer;
                int w = what;
                for (int minute : MINUTES) {
                    asks.add(x -> x.layer(l, w, minute));
                }
            }
        }
    }

    private static void askSheets(List<Edge.Ask> asks) {
        for (int sheet = 0; sheet <= 120; sheet++) {
            int s = sheet;
            asks.add(x -> x.good(s));
            asks.add(x -> x.slip(s, 0));
            asks.add(x -> x.slip(s, 1));
        }
    }

    private static void askLand(List<Edge.Ask> asks) {
        for (int party = 0; party < 4; party++) {
            int a = party;
            for (int other = -1; other < 4; other++) {
                int b = other;
                for (int minute : MINUTES) {
                    asks.add(x -> x.sum(a, b, minute));
                    asks.add(x -> x.doubt(a, b, minute));
                    asks.add(x -> x.margin(a, b, minute));
                    asks.add(x -> x.ahead(a, b, minute));
                }
            }
            for (int minute : MINUTES) {
                asks.add(x -> x.worst(a, minute, false));
                asks.add(x -> x.worst(a, minute, true));
            }
        }
    }

    private static void askOfficials(List<Edge.Ask> asks) {
        for (int party = 0; party < 4; party++) {
            int a = party;
            for (int poll = 0; poll <= 40; poll++) {
                int p = poll;
                asks.add(x -> x.off(p, a, 10000));
            }
            for (int minute : MINUTES) {
                asks.add(x -> x.offs(a, 0, minute));
                asks.add(x -> x.offs(a, 1, minute));
                asks.add(x -> x.offs(a, 2, minute));
                asks.add(x -> x.lean(a, minute));
            }
        }
    }

    private static List<Edge.Ask> sortsOfTrays() {
        List<Edge.Ask> asks = new ArrayList<>();
        for (int tray = 0; tray < 4; tray++) {
            for (int other = 0; other < 4; other++) {
                int t = tray;
                int o = other;
                asks.add(x -> x.pour(t, 0, o, 0, 0));
            }
        }
        for (int tray = 0; tray < 4; tray++) {
            int t = tray;
            asks.add(x -> x.write(t, 0, 0x123456789ABCDEFL));
            asks.add(x -> x.read(t, 0));
        }
        return asks;
    }

    private static List<Edge.Ask> manyOfParties() {
        List<Edge.Ask> asks = new ArrayList<>();
        for (int many = 2; many <= 4; many++) {
            int m = many;
            asks.add(x -> x.parties(m));
        }
        return asks;
    }

    private static List<Edge.Ask> manyOfPolls() {
        List<Edge.Ask> asks = new ArrayList<>();
        for (int layer = 0; layer < 4; layer++) {
            for (int many = 1; many <= 12; many++) {
                int l = layer;
                int m = many;
                asks.add(x -> x.draw(l, m, 1));
            }
            int l = layer;
            asks.add(x -> x.draw(l, 39, 1));
            asks.add(x -> x.draw(l, 40, 1));
            asks.add(x -> x.poll(l, 2000));
        }
        return asks;
    }

    private static List<Edge.Ask> minuteOfSheets() {
        List<Edge.Ask> asks = new ArrayList<>();
        asks.add(x -> x.tray(0, 1, 6));
        for (int minute = 0; minute < 30; minute++) {
            int m = minute;
            asks.add(x -> x.sheet(0, 0, m));
        }
        int[] later = {118, 119, 120, 121, 499, 500, 501, 9999, 10000};
        for (int m : later) {
            asks.add(x -> x.sheet(0, 0, m));
        }
        return asks;
    }

    /** For each two figures a SHEET of POLL 0 that is mended only if they are a HABIT. */
    private static List<Edge.Ask> habitsFrom(int first, int end) {
        List<Edge.Ask> asks = new ArrayList<>();
        asks.add(x -> x.tray(0, 1, 6));
        for (int a = first; a < end; a++) {
            for (int b = a + 1; b < 10; b++) {
                int one = a;
                int other = b;
                asks.add(x -> slipOf(x, one, other));
            }
        }
        return asks;
    }

    private static int slipOf(QuickCount x, int vote, int all) {
        int parties = x.lean(3, 0) == 1 ? 4 : x.lean(2, 0) == 1 ? 3 : 2;
        x.write(0, 0, vote);
        x.write(0, parties + 1, all);
        return x.slip(x.sheet(0, 0, 10000), 0);
    }
}
