/** Promises 5 to 8: tray, write, read, pour. */
public final class TrayTest {
    private static final Check CHECK = new Check("TrayTest");

    public static void main(String[] args) {
        laying();
        writingAndReading();
        cutting();
        pouring();
        pouringRefused();
        CHECK.end();
    }

    private static void laying() {
        QuickCount x = new QuickCount();
        int[][] wrong = {{-1, 0, 1}, {4, 0, 1}, {0, -1, 1}, {0, 4, 1}, {0, 0, -1}, {0, 0, 21},
            {Integer.MIN_VALUE, 0, 1}, {0, Integer.MAX_VALUE, 1}, {0, 0, Integer.MAX_VALUE}};
        for (int[] w : wrong) {
            CHECK.refused(x, "tray " + w[0] + " " + w[1] + " " + w[2], x.tray(w[0], w[1], w[2]), 1);
        }
        CHECK.refused(x, "still missing", x.read(0, 0), 3);
        for (int tray = 0; tray < 4; tray++) {
            CHECK.done(x, "tray", x.tray(tray, tray, 20));
            CHECK.told(x, "last place", x.read(tray, 19), 0);
            CHECK.refused(x, "one more", x.read(tray, 20), 4);
        }
        CHECK.done(x, "an empty tray", x.tray(1, 0, 0));
        CHECK.refused(x, "has no place", x.read(1, 0), 4);
        x.write(2, 0, 76);
        x.write(2, 3, 77);
        CHECK.refused(x, "refused tray", x.tray(2, 0, 21), 1);
        CHECK.told(x, "changes nothing", x.read(2, 3), 77);
        CHECK.done(x, "anew", x.tray(2, 2, 5));
        CHECK.told(x, "is of 0s", x.read(2, 0), 0);
        CHECK.told(x, "is of 0s", x.read(2, 3), 0);
        x.write(2, 4, 9);
        x.tray(2, 2, 2);
        x.tray(2, 2, 6);
        CHECK.told(x, "shorter and longer again is of 0s", x.read(2, 4), 0);
    }

    private static void writingAndReading() {
        QuickCount x = new QuickCount();
        int[] noTrays = {-1, 4, Integer.MIN_VALUE, Integer.MAX_VALUE};
        for (int tray : noTrays) {
            CHECK.refused(x, "write no tray", x.write(tray, 0, 1), 1);
            CHECK.refused(x, "read no tray", x.read(tray, 0), 1);
        }
        CHECK.refused(x, "write missing", x.write(3, -1, 1), 3);
        CHECK.refused(x, "read missing", x.read(3, -1), 3);
        x.tray(3, 3, 2);
        int[] noPlaces = {-1, 2, Integer.MIN_VALUE, Integer.MAX_VALUE};
        for (int place : noPlaces) {
            CHECK.refused(x, "write no place", x.write(3, place, 1), 4);
            CHECK.refused(x, "read no place", x.read(3, place), 4);
        }
        CHECK.done(x, "write", x.write(3, 1, -1));
        CHECK.told(x, "read -1", x.read(3, 1), -1);
        CHECK.told(x, "the other place", x.read(3, 0), 0);
        x.tray(2, 3, 2);
        CHECK.told(x, "the other tray", x.read(2, 1), 0);
    }

    private static void cutting() {
        QuickCount x = new QuickCount();
        long[] written = {127, 128, 255, 256, -129, 32767, 32768, 65535, 65536, 2147483647L, 2147483648L,
            4294967295L, 4294967296L, Long.MAX_VALUE, Long.MIN_VALUE, 0x123456789ABCDEFL};
        for (int sort = 0; sort < 4; sort++) {
            x.tray(sort, sort, 1);
            for (long v : written) {
                CHECK.done(x, "write", x.write(sort, 0, v));
                long want = sort == 0 ? (byte) v : sort == 1 ? (short) v : sort == 2 ? (int) v : v;
                CHECK.told(x, "read " + v + " of sort " + sort, x.read(sort, 0), want);
            }
        }
    }

    private static void pouring() {
        QuickCount x = new QuickCount();
        Check.fill(x, 0, 1, 2, 3, 4, 5);
        Check.fill(x, 1, 9, 9, 9);
        CHECK.done(x, "pour", x.pour(0, 2, 1, 1, 2));
        row(x, 1, 9, 3, 4);
        row(x, 0, 1, 2, 3, 4, 5);
        CHECK.done(x, "onward in its own", x.pour(0, 0, 0, 1, 4));
        row(x, 0, 1, 1, 2, 3, 4);
        CHECK.done(x, "backward in its own", x.pour(0, 1, 0, 0, 4));
        row(x, 0, 1, 2, 3, 4, 4);
        CHECK.done(x, "none at the end", x.pour(0, 5, 1, 3, 0));
        CHECK.done(x, "all", x.pour(1, 0, 0, 0, 3));
        row(x, 0, 9, 3, 4, 4, 4);
    }

    private static void row(QuickCount x, int tray, int... want) {
        for (int i = 0; i < want.length; i++) {
            CHECK.told(x, "tray " + tray + " place " + i, x.read(tray, i), want[i]);
        }
    }

    private static void pouringRefused() {
        QuickCount x = new QuickCount();
        CHECK.refused(x, "from", x.pour(-1, 0, 0, 0, 1), 1);
        CHECK.refused(x, "to", x.pour(0, 0, 4, 0, 1), 1);
        CHECK.refused(x, "place below 0, ahead of missing", x.pour(0, -1, 1, 0, 1), 1);
        CHECK.refused(x, "at below 0", x.pour(0, 0, 1, -1, 1), 1);
        CHECK.refused(x, "many below 0", x.pour(0, 0, 1, 0, -1), 1);
        CHECK.refused(x, "missing", x.pour(0, 0, 1, 0, 1), 3);
        Check.fill(x, 0, 1, 2, 3);
        CHECK.refused(x, "to is missing", x.pour(0, 0, 1, 0, 1), 3);
        CHECK.refused(x, "from is missing", x.pour(1, 0, 0, 0, 1), 3);
        x.tray(1, 3, 3);
        CHECK.refused(x, "unlike sorts, ahead of places", x.pour(0, 9, 1, 9, 9), 8);
        x.tray(1, 2, 2);
        CHECK.refused(x, "from has too few", x.pour(0, 2, 1, 0, 2), 4);
        CHECK.refused(x, "to has too few", x.pour(0, 0, 1, 0, 3), 4);
        CHECK.refused(x, "far", x.pour(0, Integer.MAX_VALUE, 1, 0, Integer.MAX_VALUE), 4);
        CHECK.refused(x, "far", x.pour(0, 0, 1, Integer.MAX_VALUE, 1), 4);
        CHECK.refused(x, "none, beyond the end", x.pour(0, 4, 1, 0, 0), 4);
        row(x, 0, 1, 2, 3);
        row(x, 1, 0, 0);
    }
}
