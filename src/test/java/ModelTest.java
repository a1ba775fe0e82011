import java.util.Arrays;
import java.util.Random;

/** All promises: long runs of mixed calls, each answer held against Model. The runs are the same each time. */
public final class ModelTest {
    private static final Check CHECK = new Check("ModelTest");
    private static final int CALLS = 512;
    /** Without a divisor in common with 40, so that each of 40 POLLS comes once. */
    private static final int[] STEPS = {1, 3, 7, 9};
    /** How many are KNOWN in each LAYER, for the largest bottoms that 40 POLLS allow. */
    private static final int[][] LARGE = {{3, 8, 11, 13}, {5, 7, 11, 13}, {4, 9, 10, 11}, {2, 9, 11, 13}, {2, 7, 11, 13}, {5, 8, 9, 11}};
    private static final int[] ODD = {-1, -2, 4, 5, 20, 21, 40, 120, 10001, Integer.MAX_VALUE, Integer.MIN_VALUE};

    /** The STATUS that each kind of call may have, so that no run misses one of them. */
    private static final String[] MAY = {"01", "0134", "0134", "01348", "017", "017", "01", "01", "01", "012347", "01", "01",
        "016", "016", "016", "015", "015", "015", "015", "015", "0134", "016", "01", "01", "034"};
    private static final int[][] SEEN = new int[MAY.length][9];
    private static final int[] AHEAD = new int[3];

    private final Random random;
    private final QuickCount x = new QuickCount();
    private final Model model = new Model();
    private final int rollMost;
    private final int oddEvery;
    private int calls = 0;
    private int polls = 0;
    private int sheets = 0;
    private int parties = 2;
    private int minute = 0;

    private ModelTest(long seed, int rollMost, int oddEvery) {
        random = new Random(seed);
        this.rollMost = rollMost;
        this.oddEvery = oddEvery;
    }

    public static void main(String[] args) {
        for (int run = 0; run < 250; run++) {
            int rollMost = run % 5 == 0 ? 2000 : run % 5 == 1 ? 12 : run % 5 == 2 ? 3 : 150;
            new ModelTest(run, rollMost, run % 3 == 0 ? 8 : 40).mixed();
        }
        for (int run = 0; run < 350; run++) {
            new ModelTest(1000 + run, run % 2 == 0 ? 2000 : 40, 1000).full();
        }
        for (int run = 0; run < 150; run++) {
            new ModelTest(2000 + run, run % 2 == 0 ? 2000 : 99, 1000).slips();
        }
        for (int run = 0; run < 20; run++) {
            new ModelTest(3000 + run, 100, 1000).manySheets();
        }
        for (int run = 0; run < 60; run++) {
            new ModelTest(4000 + run, 2000, 1000).large(LARGE[run % LARGE.length], run / LARGE.length);
        }
        reached();
        CHECK.end();
    }

    private static void reached() {
        for (int kind = 0; kind < MAY.length; kind++) {
            for (int status = 0; status < 9; status++) {
                boolean may = MAY[kind].indexOf('0' + status) >= 0;
                CHECK.due("call " + kind + " comes to status " + status, SEEN[kind][status] > 0, may);
            }
        }
        for (int answer = 0; answer < 3; answer++) {
            CHECK.due("ahead comes to " + answer, AHEAD[answer] > 40, true);
        }
        if (Boolean.getBoolean("show")) {
            System.out.println(Arrays.deepToString(SEEN) + Arrays.toString(AHEAD));
        }
    }

    /** Any calls in any order. */
    private void mixed() {
        if (random.nextBoolean()) {
            parties = 2 + random.nextInt(3);
            call(4, parties);
        }
        while (calls < CALLS - 12) {
            int kind = random.nextInt(36);
            if (kind < 25) {
                anyCall(kind);
            } else if (kind < 29 && polls < 40) {
                call(5, below(4), 1 + below(rollMost));
            } else if (kind < 33) {
                readSheet(below(Math.max(polls, 1)), minute + below(3), 4);
            } else {
                tellOfficial(below(Math.max(polls, 1)));
            }
        }
    }

    /** As many POLLS as may be, most of them KNOWN, then what the land says of them. */
    private void full() {
        parties = 2 + random.nextInt(3);
        call(4, parties);
        int layers = 1 + random.nextInt(4);
        for (int i = 0; i < 40; i++) {
            call(5, below(layers), 1 + below(rollMost));
        }
        for (int l = 0; l < layers; l++) {
            call(6, l, 1 + below(40 / layers), random.nextInt() & 0x7FFFFFFF);
        }
        int leaning = below(4);
        int step = STEPS[below(STEPS.length)];
        int skipped = below(3) == 0 ? 0 : below(20);
        for (int i = 0; i < polls - skipped; i++) {
            readSheet(i * step % polls, minute + below(2), leaning);
        }
        while (calls < CALLS - 12) {
            int kind = below(12);
            if (kind < 9) {
                anyCall(kind < 5 ? 15 + kind : kind < 6 ? 14 : 17 + kind - 2);
            } else {
                tellOfficial(below(polls));
            }
        }
    }

    /** SHEETS with one figure wrong, HABITS that come and go, and the SLIPS that are asked for. */
    private void slips() {
        parties = 2 + random.nextInt(3);
        call(4, parties);
        call(5, 0, rollMost);
        for (int i = 0; i < 15; i++) {
            call(11, below(10), below(10), 1);
        }
        while (calls < CALLS - 25) {
            readSheet(0, minute, 4);
            for (int k = 0; k < 3; k++) {
                call(12, sheets - 1 - below(Math.min(sheets, 2)), k);
            }
            call(11, below(10), below(10), below(2));
        }
    }

    /** Full ROLLS, with votes for PARTY 0 alone up to a share of the SHEETS in ten, else for PARTY 1. */
    private void large(int[] known, int share) {
        int[] had = new int[4];
        int left = 40 - Arrays.stream(known).sum();
        for (int l = 0; l < 4; l++) {
            had[l] = known[l] + (l < 3 ? 1 : left - 3);
        }
        int[] first = new int[4];
        for (int l = 0; l < 4; l++) {
            first[l] = polls;
            for (int i = 0; i < had[l]; i++) {
                call(5, l, 2000);
            }
            call(6, l, had[l], 1);
        }
        call(0, 0, 1, 4);
        call(1, 0, 3, 2000);
        for (int l = 0; l < 4; l++) {
            for (int i = 0; i < known[l]; i++) {
                int votes = below(10) < share ? 2000 - below(3) : below(3);
                call(1, 0, 0, votes);
                call(1, 0, 1, 2000 - votes);
                call(9, first[l] + i, 0, 0);
            }
        }
        for (int kind = 15; kind < 18; kind++) {
            call(kind, 0, 1, 0);
            call(kind, 1, 0, 0);
            call(kind, 0, -1, 0);
        }
        call(18, 0, 0, 0);
        call(18, 0, 0, 1);
        call(19, 0, 1, 0);
        call(19, 1, 0, 0);
    }

    /** More SHEETS than may be, of few POLLS. */
    private void manySheets() {
        for (int i = 0; i < 4; i++) {
            call(5, i / 2, 100);
        }
        call(6, 0, 2, 1);
        call(6, 1, 2, 1);
        call(0, 0, 1, 4);
        for (int i = 0; i < 125; i++) {
            call(1, 0, 0, below(30));
            call(1, 0, 3, below(30));
            call(9, below(4), 0, minute + below(3));
        }
        while (calls < CALLS - 12) {
            anyCall(12 + below(12));
        }
    }

    private int below(int bound) {
        return random.nextInt(bound);
    }

    /** A number of 0 up to most, or at times one that can't be. */
    private int some(int most) {
        return below(oddEvery) == 0 ? ODD[below(ODD.length)] : below(most + 1);
    }

    private int someMinute() {
        return below(oddEvery) == 0 ? ODD[below(ODD.length)] : below(3) == 0 ? 10000 : below(minute + 2);
    }

    private int someParty() {
        return some(parties - 1);
    }

    private int someOther() {
        return below(3) == 0 ? -1 : someParty();
    }

    private int somePoll() {
        return some(Math.max(polls - 1, 0));
    }

    private int someSheet() {
        return some(Math.max(sheets - 1, 0));
    }

    private void anyCall(int kind) {
        switch (kind) {
            case 0 -> call(0, some(3), some(3), some(20));
            case 1 -> call(1, some(3), some(10), below(3) == 0 ? random.nextInt() : below(300));
            case 2 -> call(2, some(3), some(10));
            case 3 -> call(3, some(3), some(9), some(3), some(9), some(9));
            case 4 -> call(4, 2 + some(2));
            case 5 -> call(5, some(3), some(rollMost));
            case 6 -> call(6, some(3), some(6), random.nextInt() >>> (below(12) == 0 ? 0 : 1));
            case 7 -> call(7, somePoll(), some(2));
            case 8 -> call(8, somePoll());
            case 9 -> call(9, somePoll(), some(3), minute + some(3) - below(2));
            case 10 -> call(10, someSheet());
            case 11 -> call(11, some(9), some(9), below(4) == 0 ? 0 : 1);
            case 12 -> call(12, someSheet(), some(3));
            case 13 -> call(13, somePoll(), someMinute());
            case 14 -> call(14, some(3), some(2), someMinute());
            case 15, 16, 17 -> call(kind, someParty(), someOther(), someMinute());
            case 18 -> call(18, someParty(), someMinute(), below(2));
            case 19 -> call(19, someParty(), someParty(), someMinute());
            case 20 -> call(20, somePoll(), some(3));
            case 21 -> call(21, somePoll(), someParty(), someMinute());
            case 22 -> call(22, someParty(), some(2), someMinute());
            case 23 -> call(23, someParty(), someMinute());
            default -> call(24, below(4), below(4), random.nextInt());
        }
    }

    /** A SHEET that is GOOD, or one with a slip of the pen; the leaning is the PARTY that gets most, if any. */
    private void readSheet(int poll, int at, int leaning) {
        int roll = Math.max(polls == 0 ? 1 : x.told(poll, 1), 1);
        model.told(poll, 1);
        int[] numbers = new int[parties + 2];
        int left = below(roll + 1);
        numbers[parties + 1] = left;
        if (leaning < parties) {
            numbers[leaning] = left / 2 + left / 4;
            left -= numbers[leaning];
        }
        for (int i = 0; i < parties; i++) {
            int votes = below(left + 1);
            numbers[i] += votes;
            left -= votes;
        }
        numbers[parties] = left;
        if (below(3) == 0) {
            int number = below(parties + 2);
            int scale = below(3) == 0 ? 10 : below(6) == 0 ? 100 : 1;
            numbers[number] += (below(10) - numbers[number] / scale % 10) * scale;
        }
        call(0, 0, 1 + below(2), parties + 2 + below(2));
        for (int i = 0; i < numbers.length; i++) {
            call(1, 0, i, numbers[i]);
        }
        call(9, poll, 0, at);
    }

    private void tellOfficial(int poll) {
        int known = polls == 0 ? -1 : x.known(poll, 10000);
        model.known(poll, 10000);
        call(0, 1, 2, parties);
        for (int i = 0; i < parties; i++) {
            call(1, 1, i, known == -1 ? below(30) : below(rollMost + 1));
        }
        call(20, poll, 1);
    }

    private void call(int kind, int... a) {
        calls++;
        long got = kind < 13 ? ask(kind, a) : askLater(kind, a);
        long want = kind < 13 ? due(kind, a) : dueLater(kind, a);
        String what = "call " + kind + " " + Arrays.toString(a);
        CHECK.due(what, got, want);
        CHECK.due(what + ", status", x.status(), model.status);
        CHECK.due(what + ", top", x.top(), model.top());
        CHECK.due(what + ", bottom", x.bottom(), model.bottom());
        SEEN[kind][model.status]++;
        if (kind == 19 && model.status == 0) {
            AHEAD[(int) want]++;
        }
        if (model.status == 0) {
            keep(kind, a);
        }
    }

    private void keep(int kind, int[] a) {
        switch (kind) {
            case 4 -> parties = a[0];
            case 5 -> polls++;
            case 9 -> {
                sheets++;
                minute = a[2];
            }
            default -> { }
        }
    }

    private static long one(boolean is) {
        return is ? 1 : 0;
    }

    private long ask(int kind, int[] a) {
        return switch (kind) {
            case 0 -> one(x.tray(a[0], a[1], a[2]));
            case 1 -> one(x.write(a[0], a[1], a[2]));
            case 2 -> x.read(a[0], a[1]);
            case 3 -> one(x.pour(a[0], a[1], a[2], a[3], a[4]));
            case 4 -> one(x.parties(a[0]));
            case 5 -> x.poll(a[0], a[1]);
            case 6 -> one(x.draw(a[0], a[1], a[2]));
            case 7 -> x.told(a[0], a[1]);
            case 8 -> x.chance(a[0]);
            case 9 -> x.sheet(a[0], a[1], a[2]);
            case 10 -> x.good(a[0]);
            case 11 -> one(x.habit(a[0], a[1], a[2] == 1));
            default -> x.slip(a[0], a[1]);
        };
    }

    private long askLater(int kind, int[] a) {
        return switch (kind) {
            case 13 -> x.known(a[0], a[1]);
            case 14 -> x.layer(a[0], a[1], a[2]);
            case 15 -> x.sum(a[0], a[1], a[2]);
            case 16 -> x.doubt(a[0], a[1], a[2]);
            case 17 -> x.margin(a[0], a[1], a[2]);
            case 18 -> x.worst(a[0], a[1], a[2] == 1);
            case 19 -> x.ahead(a[0], a[1], a[2]);
            case 20 -> one(x.official(a[0], a[1]));
            case 21 -> x.off(a[0], a[1], a[2]);
            case 22 -> x.offs(a[0], a[1], a[2]);
            case 23 -> x.lean(a[0], a[1]);
            default -> one(x.write(a[0], a[1], ((long) a[2] << 32) + a[2]));
        };
    }

    private long due(int kind, int[] a) {
        return switch (kind) {
            case 0 -> model.tray(a[0], a[1], a[2]);
            case 1 -> model.write(a[0], a[1], a[2]);
            case 2 -> model.read(a[0], a[1]);
            case 3 -> model.pour(a[0], a[1], a[2], a[3], a[4]);
            case 4 -> model.parties(a[0]);
            case 5 -> model.poll(a[0], a[1]);
            case 6 -> model.draw(a[0], a[1], a[2]);
            case 7 -> model.told(a[0], a[1]);
            case 8 -> model.chance(a[0]);
            case 9 -> model.sheet(a[0], a[1], a[2]);
            case 10 -> model.good(a[0]);
            case 11 -> model.habit(a[0], a[1], a[2] == 1);
            default -> model.slip(a[0], a[1]);
        };
    }

    private long dueLater(int kind, int[] a) {
        return switch (kind) {
            case 13 -> model.known(a[0], a[1]);
            case 14 -> model.layer(a[0], a[1], a[2]);
            case 15 -> model.sum(a[0], a[1], a[2]);
            case 16 -> model.doubt(a[0], a[1], a[2]);
            case 17 -> model.margin(a[0], a[1], a[2]);
            case 18 -> model.worst(a[0], a[1], a[2] == 1);
            case 19 -> model.ahead(a[0], a[1], a[2]);
            case 20 -> model.official(a[0], a[1]);
            case 21 -> model.off(a[0], a[1], a[2]);
            case 22 -> model.offs(a[0], a[1], a[2]);
            case 23 -> model.lean(a[0], a[1]);
            default -> model.write(a[0], a[1], ((long) a[2] << 32) + a[2]);
        };
    }
}
