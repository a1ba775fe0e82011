/** Promises 1 to 4: a new object, status, top, bottom. */
public final class BasicsTest {
    private static final Check CHECK = new Check("BasicsTest");

    public static void main(String[] args) {
        newObject();
        statusOfTheLatestCall();
        fractionToldLatest();
        CHECK.end();
    }

    private static void newObject() {
        QuickCount x = new QuickCount();
        CHECK.due("NONE", QuickCount.NONE, -1);
        CHECK.due("status of a new object", x.status(), 0);
        CHECK.fraction(x, "new object", 0, 1);
        for (int tray = 0; tray < 4; tray++) {
            CHECK.refused(x, "a tray is missing", x.read(tray, 0), 3);
        }
        CHECK.refused(x, "no polls", x.told(0, 0), 1);
        CHECK.refused(x, "no sheets", x.good(0), 1);
        for (int layer = 0; layer < 4; layer++) {
            CHECK.refused(x, "no draw", x.layer(layer, 0, 0), 6);
        }
        CHECK.told(x, "party 1 is", x.lean(1, 0), 1);
        CHECK.refused(x, "party 2 is not", x.lean(2, 0), 1);
        x.poll(0, 10);
        CHECK.told(x, "a sheet of minute 0 is not gone", Check.sheet(x, 0, 0, 1, 1, 0, 2), 0);
        CHECK.due("no habit at first", anyHabit(), false);
        CHECK.due("objects share nothing", new QuickCount().poll(0, 1), 0);
    }

    /** One SHEET for each pair of figures that this pair alone would mend. */
    private static boolean anyHabit() {
        boolean any = false;
        for (int a = 0; a < 10; a++) {
            QuickCount x = new QuickCount();
            x.poll(0, 100);
            for (int b = 0; b < 10; b++) {
                int sheet = Check.sheet(x, 0, 0, a, 0, 0, b);
                any |= x.slip(sheet, 0) != -1;
            }
        }
        return any;
    }

    private static void statusOfTheLatestCall() {
        QuickCount x = new QuickCount();
        x.read(0, 0);
        CHECK.due("status", x.status(), 3);
        x.top();
        x.bottom();
        CHECK.due("status, top and bottom have none", x.status(), 3);
        CHECK.due("status again", x.status(), 3);
        x.poll(0, 1);
        CHECK.due("status", x.status(), 0);
    }

    private static void fractionToldLatest() {
        QuickCount x = new QuickCount();
        for (int i = 0; i < 6; i++) {
            x.poll(0, 100);
        }
        x.draw(0, 4, 3);
        x.chance(0);
        CHECK.fraction(x, "chance without a common divisor", 2, 3);
        x.chance(6);
        x.sum(0, -1, 0);
        x.lean(2, 0);
        x.told(0, 1);
        x.layer(0, 2, 0);
        CHECK.fraction(x, "refused calls and other calls keep it", 2, 3);
        x.lean(0, 0);
        CHECK.fraction(x, "lean", 1, 1);
    }
}
