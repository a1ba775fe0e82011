/** Counts the answers that are not as due, for the tests of one file. */
final class Check {
    private final String name;
    private int asked = 0;
    private int wrong = 0;

    Check(String name) {
        this.name = name;
    }

    void due(String what, long got, long want) {
        asked++;
        if (got != want) {
            wrong++;
            System.out.println(name + ": " + what + " answered " + got + ", due is " + want);
        }
    }

    void due(String what, boolean got, boolean want) {
        due(what, got ? 1 : 0, want ? 1 : 0);
    }

    /** An answer with STATUS 0. */
    void told(QuickCount x, String what, long got, long want) {
        due(what, got, want);
        due(what + ", status", x.status(), 0);
    }

    void done(QuickCount x, String what, boolean got) {
        due(what, got, true);
        due(what + ", status", x.status(), 0);
    }

    /** NONE with another STATUS than 0. */
    void refused(QuickCount x, String what, long got, int status) {
        due(what, got, -1);
        due(what + ", status", x.status(), status);
    }

    void refused(QuickCount x, String what, boolean got, int status) {
        due(what, got, false);
        due(what + ", status", x.status(), status);
    }

    void fraction(QuickCount x, String what, long top, long bottom) {
        due(what + ", top", x.top(), top);
        due(what + ", bottom", x.bottom(), bottom);
    }

    /** Lays a TRAY of 32 bits with these numbers. */
    static void fill(QuickCount x, int tray, int... numbers) {
        x.tray(tray, 2, numbers.length);
        for (int i = 0; i < numbers.length; i++) {
            x.write(tray, i, numbers[i]);
        }
    }

    /** Reads a SHEET by TRAY 0. */
    static int sheet(QuickCount x, int poll, int minute, int... numbers) {
        fill(x, 0, numbers);
        return x.sheet(poll, 0, minute);
    }

    /** Tells OFFICIAL numbers by TRAY 1. */
    static boolean official(QuickCount x, int poll, int... numbers) {
        fill(x, 1, numbers);
        return x.official(poll, 1);
    }

    void end() {
        System.out.println(name + ": " + (asked - wrong) + " of " + asked + " answers are as due");
        if (wrong != 0) {
            System.exit(1);
        }
    }
}
