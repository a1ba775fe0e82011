/**
 * A count before the count: a sample of POLLS drawn by LAYERS, the SHEETS read from them,
 * what they tell of the land, and the OFFICIAL numbers held against them.
 *
 * <p>All rows are made with the object and used again: no call makes an object.
 */
public final class QuickCount {
    public static final int NONE = -1;

    private static final int FINE = 0;
    private static final int CANNOT_BE = 1;
    private static final int MINUTE_GONE = 2;
    private static final int TRAY_MISSING = 3;
    private static final int NO_PLACE = 4;
    private static final int OPEN = 5;
    private static final int NONE_SUCH = 6;
    private static final int TOO_MANY = 7;
    private static final int UNLIKE_SORTS = 8;

    private static final int TRAYS = 4;
    private static final int TRAY_PLACES = 20;
    private static final int LAST_SORT = 3;
    private static final int FEWEST_PARTIES = 2;
    private static final int MOST_PARTIES = 4;
    private static final int LAYERS = 4;
    private static final int MOST_POLLS = 40;
    private static final int MOST_ROLL = 2000;
    private static final int MOST_SHEETS = 120;
    private static final int SHEET_NUMBERS = MOST_PARTIES + 2;
    private static final int LAST_MINUTE = 10000;
    private static final int MOST_VOTES = 9999;
    private static final int FIGURES = 10;
    private static final int MOST_PLACES = 4;

    private final Trays trays;
    private final PollBook polls;
    private final SheetBook sheets;
    private final Habits habits;
    private final Land land;
    private final Officials officials;
    private final Fraction fraction;
    private final Fraction work;
    private final Fraction other;
    private int partyMany;
    private int status;

    public QuickCount() {
        trays = new Trays();
        polls = new PollBook();
        sheets = new SheetBook();
        habits = new Habits();
        land = new Land();
        officials = new Officials();
        fraction = new Fraction();
        work = new Fraction();
        other = new Fraction();
        partyMany = FEWEST_PARTIES;
        status = FINE;
    }

    public int status() {
        return status;
    }

    public long top() {
        return fraction.over;
    }

    public long bottom() {
        return fraction.under;
    }

    // ---- TRAYS

    public boolean tray(int tray, int sort, int many) {
        if (!isTray(tray) || !isWithin(sort, 0, LAST_SORT) || !isWithin(many, 0, TRAY_PLACES)) {
            return isDone(CANNOT_BE);
        }
        trays.lay(tray, sort, many);
        return isDone(FINE);
    }

    public boolean write(int tray, int place, long v) {
        int why = whyNoTrayPlace(tray, place);
        if (why == FINE) {
            trays.put(tray, place, v);
        }
        return isDone(why);
    }

    public long read(int tray, int place) {
        int why = whyNoTrayPlace(tray, place);
        if (why != FINE) {
            return refused(why);
        }
        status = FINE;
        return trays.at(tray, place);
    }

    public boolean pour(int from, int place, int to, int at, int many) {
        if (!isTray(from) || !isTray(to) || place < 0 || at < 0 || many < 0) {
            return isDone(CANNOT_BE);
        }
        if (trays.isMissing(from) || trays.isMissing(to)) {
            return isDone(TRAY_MISSING);
        }
        if (!trays.areAlike(from, to)) {
            return isDone(UNLIKE_SORTS);
        }
        if (!trays.hasRun(from, place, many) || !trays.hasRun(to, at, many)) {
            return isDone(NO_PLACE);
        }
        trays.copyRun(from, place, to, at, many);
        return isDone(FINE);
    }

    // ---- POLLS and DRAWS

    public boolean parties(int many) {
        if (!isWithin(many, FEWEST_PARTIES, MOST_PARTIES)) {
            return isDone(CANNOT_BE);
        }
        if (sheets.many > 0 || officials.isAny) {
            return isDone(TOO_MANY);
        }
        partyMany = many;
        return isDone(FINE);
    }

    public int poll(int layer, int roll) {
        if (!isLayer(layer) || !isWithin(roll, 1, MOST_ROLL)) {
            return refused(CANNOT_BE);
        }
        if (polls.many >= MOST_POLLS) {
            return refused(TOO_MANY);
        }
        return answered(polls.add(layer, roll));
    }

    public boolean draw(int layer, int many, int seed) {
        if (!isLayer(layer) || many < 1 || seed < 0 || many > polls.perLayer[layer]) {
            return isDone(CANNOT_BE);
        }
        polls.takeLots(layer, many, seed);
        return isDone(FINE);
    }

    public int told(int poll, int what) {
        if (!isPoll(poll) || !isWithin(what, 0, 2)) {
            return refused(CANNOT_BE);
        }
        if (what == 0) {
            return answered(polls.layers[poll]);
        }
        if (what == 1) {
            return answered(polls.rolls[poll]);
        }
        return answered(polls.isDrawn[poll] ? 1 : 0);
    }

    public int chance(int poll) {
        if (!isPoll(poll)) {
            return refused(CANNOT_BE);
        }
        fraction.clear();
        if (polls.wasThere[poll]) {
            int layer = polls.layers[poll];
            fraction.put(polls.took[layer], polls.had[layer]);
        }
        return answered(fraction.sign());
    }

    // ---- SHEETS

    public int sheet(int poll, int tray, int minute) {
        int why = whyNoSheet(poll, tray, minute);
        if (why != FINE) {
            return refused(why);
        }
        return answered(sheets.add(poll, polls.rolls[poll], trays, tray, minute, partyMany));
    }

    public int good(int sheet) {
        if (!isSheet(sheet)) {
            return refused(CANNOT_BE);
        }
        return answered(sheets.isGood[sheet] ? 1 : 0);
    }

    public boolean habit(int a, int b, boolean is) {
        if (!isWithin(a, 0, FIGURES - 1) || !isWithin(b, 0, FIGURES - 1) || a == b) {
            return isDone(CANNOT_BE);
        }
        habits.set(a, b, is);
        return isDone(FINE);
    }

    public int slip(int sheet, int k) {
        if (!isSheet(sheet)) {
            return refused(CANNOT_BE);
        }
        if (k < 0 || sheets.isGood[sheet]) {
            return refused(NONE_SUCH);
        }
        return answeredIfAny(slipOf(sheet, k));
    }

    public int known(int poll, int minute) {
        if (!isPoll(poll) || !isMinute(minute)) {
            return refused(CANNOT_BE);
        }
        return answeredIfAny(sheets.findKnownOf(poll, minute));
    }

    public int layer(int layer, int what, int minute) {
        if (!isLayer(layer) || !isWithin(what, 0, 2) || !isMinute(minute)) {
            return refused(CANNOT_BE);
        }
        if (polls.had[layer] == 0) {
            return refused(NONE_SUCH);
        }
        if (what == 0) {
            return answered(polls.took[layer]);
        }
        if (what == 2) {
            return answered(polls.had[layer]);
        }
        tally(0, NONE, minute);
        return answered(land.knownMany[layer]);
    }

    // ---- the land

    public int sum(int a, int b, int minute) {
        int why = whyNoTally(a, b, minute, 1);
        if (why != FINE) {
            return refused(why);
        }
        land.tellSum(polls, fraction);
        return answered(fraction.sign());
    }

    public int doubt(int a, int b, int minute) {
        int why = whyNoTally(a, b, minute, 2);
        if (why != FINE) {
            return refused(why);
        }
        land.tellDoubt(polls, fraction);
        return answered(fraction.sign());
    }

    public int margin(int a, int b, int minute) {
        int why = whyNoTally(a, b, minute, 2);
        if (why != FINE) {
            return refused(why);
        }
        land.tellDoubt(polls, work);
        return answered(rootAtLeast(work.roundedUp(4)));
    }

    public int worst(int party, int minute, boolean high) {
        if (!isParty(party) || !isMinute(minute)) {
            return refused(CANNOT_BE);
        }
        if (!polls.hasDraw()) {
            return refused(OPEN);
        }
        tally(party, NONE, minute);
        land.tellWorst(polls, high, fraction);
        return answered(fraction.sign());
    }

    public int ahead(int a, int b, int minute) {
        if (b == NONE) {
            return refused(CANNOT_BE);
        }
        int why = whyNoTally(a, b, minute, 2);
        if (why != FINE) {
            return refused(why);
        }
        if (!isTallyAhead()) {
            return answered(0);
        }
        return answered(isLowAboveHigh(a, b, minute) ? 2 : 1);
    }

    // ---- OFFICIAL numbers

    public boolean official(int poll, int tray) {
        if (!isPoll(poll) || !isTray(tray)) {
            return isDone(CANNOT_BE);
        }
        int why = whyNoVotes(tray, partyMany);
        if (why == FINE) {
            officials.put(poll, trays, tray, partyMany);
        }
        return isDone(why);
    }

    public int off(int poll, int party, int minute) {
        if (!isPoll(poll) || !isParty(party) || !isMinute(minute)) {
            return refused(CANNOT_BE);
        }
        int sheet = sheets.findKnownOf(poll, minute);
        if (sheet == NONE || !officials.isTold[poll]) {
            return refused(NONE_SUCH);
        }
        return answered(officials.votesOf(poll, party) - sheets.numberOf(sheet, party));
    }

    public int offs(int party, int what, int minute) {
        if (!isParty(party) || !isWithin(what, 0, 2) || !isMinute(minute)) {
            return refused(CANNOT_BE);
        }
        sheets.findKnown(minute);
        officials.compare(sheets, polls.many, party);
        if (what == 0) {
            return answered(officials.offMany);
        }
        return answered(what == 1 ? officials.offAbove : officials.offTogether);
    }

    public int lean(int party, int minute) {
        if (!isParty(party) || !isMinute(minute)) {
            return refused(CANNOT_BE);
        }
        sheets.findKnown(minute);
        officials.compare(sheets, polls.many, party);
        int many = officials.offMany;
        fraction.put(waysAtLeast(officials.offAbove, many), 1L << many);
        return answered(1);
    }

    // ---- the STATUS of a call

    private boolean isDone(int why) {
        status = why;
        return why == FINE;
    }

    private int refused(int why) {
        status = why;
        return NONE;
    }

    private int answered(int answer) {
        status = FINE;
        return answer;
    }

    private int answeredIfAny(int answer) {
        return answer == NONE ? refused(NONE_SUCH) : answered(answer);
    }

    private static boolean isWithin(int v, int least, int most) {
        return v >= least && v <= most;
    }

    private static boolean isTray(int tray) {
        return isWithin(tray, 0, TRAYS - 1);
    }

    private static boolean isLayer(int layer) {
        return isWithin(layer, 0, LAYERS - 1);
    }

    private static boolean isMinute(int minute) {
        return isWithin(minute, 0, LAST_MINUTE);
    }

    private boolean isParty(int party) {
        return isWithin(party, 0, partyMany - 1);
    }

    private boolean isPoll(int poll) {
        return isWithin(poll, 0, polls.many - 1);
    }

    private boolean isSheet(int sheet) {
        return isWithin(sheet, 0, sheets.many - 1);
    }

    private int whyNoTrayPlace(int tray, int place) {
        if (!isTray(tray)) {
            return CANNOT_BE;
        }
        if (trays.isMissing(tray)) {
            return TRAY_MISSING;
        }
        return trays.hasPlace(tray, place) ? FINE : NO_PLACE;
    }

    private int whyNoVotes(int tray, int many) {
        if (trays.isMissing(tray)) {
            return TRAY_MISSING;
        }
        if (!trays.hasRun(tray, 0, many)) {
            return NO_PLACE;
        }
        return trays.startsWithVotes(tray, many) ? FINE : CANNOT_BE;
    }

    private int whyNoSheet(int poll, int tray, int minute) {
        if (!isTray(tray) || !isPoll(poll) || !isMinute(minute)) {
            return CANNOT_BE;
        }
        if (minute < sheets.latestMinute) {
            return MINUTE_GONE;
        }
        int why = whyNoVotes(tray, partyMany + 2);
        if (why == FINE && sheets.many >= MOST_SHEETS) {
            return TOO_MANY;
        }
        return why;
    }

    /** Leaves the tally of a, or of a less b, in the land if each LAYER with a DRAW has enough KNOWN POLLS. */
    private int whyNoTally(int a, int b, int minute, int enough) {
        boolean isOther = b == NONE || (isParty(b) && b != a);
        if (!isParty(a) || !isOther || !isMinute(minute)) {
            return CANNOT_BE;
        }
        tally(a, b, minute);
        return land.hasEnough(polls, enough) ? FINE : OPEN;
    }

    // ---- parts of the calls

    private void tally(int a, int b, int minute) {
        sheets.findKnown(minute);
        land.tally(polls, sheets, a, b);
    }

    /** SUM above 0, and its square above 4 times DOUBT. */
    private boolean isTallyAhead() {
        land.tellSum(polls, work);
        if (work.sign() <= 0) {
            return false;
        }
        land.tellDoubt(polls, other);
        work.put(work.over * work.over, work.under * work.under);
        work.add(-4 * other.over, other.under);
        return work.sign() > 0;
    }

    private boolean isLowAboveHigh(int a, int b, int minute) {
        tally(a, NONE, minute);
        land.tellWorst(polls, false, work);
        tally(b, NONE, minute);
        land.tellWorst(polls, true, other);
        work.add(-other.over, other.under);
        return work.sign() > 0;
    }

    /** SLIPS are gone through upwards by what tells them, so the k-th that holds is the one asked for. */
    private int slipOf(int sheet, int k) {
        int left = k;
        for (int number = 0; number < partyMany + 2; number++) {
            for (int spot = 0; spot < MOST_PLACES * FIGURES; spot++) {
                if (isSlip(sheet, number, spot / FIGURES, spot % FIGURES)) {
                    if (left == 0) {
                        return 100 * number + spot;
                    }
                    left--;
                }
            }
        }
        return NONE;
    }

    private boolean isSlip(int sheet, int number, int place, int figure) {
        int v = sheets.numberOf(sheet, number);
        int scale = scaleOf(place);
        boolean hasFigure = place == 0 || v >= scale;
        int was = v / scale % FIGURES;
        if (!hasFigure || !habits.are(was, figure)) {
            return false;
        }
        int roll = polls.rolls[sheets.polls[sheet]];
        return sheets.isMended(sheet, number == partyMany + 1, (figure - was) * scale, roll);
    }

    private static int scaleOf(int place) {
        int scale = 1;
        for (int i = 0; i < place; i++) {
            scale *= FIGURES;
        }
        return scale;
    }

    /** The least whole number of which the square is v or more. */
    private static int rootAtLeast(long v) {
        if (v <= 0) {
            return 0;
        }
        long below = 0;
        for (long step = 1L << 29; step > 0; step /= 2) {
            long next = below + step;
            if (next * next < v) {
                below = next;
            }
        }
        return (int) (below + 1);
    }

    /** In how many of the 2 to the many ways at least so many come above. */
    private static long waysAtLeast(int least, int many) {
        long ways = 1;
        long together = 0;
        for (int above = 0; above <= many; above++) {
            if (above >= least) {
                together += ways;
            }
            ways = ways * (many - above) / (above + 1);
        }
        return together;
    }

    /** Four rows of numbers; a sort of NONE is a TRAY that is MISSING. */
    private static final class Trays {
        private final int[] sorts = new int[TRAYS];
        private final int[] sizes = new int[TRAYS];
        private final long[] numbers = new long[TRAYS * TRAY_PLACES];

        private Trays() {
            for (int t = 0; t < TRAYS; t++) {
                sorts[t] = NONE;
            }
        }

        private void lay(int tray, int sort, int many) {
            sorts[tray] = sort;
            sizes[tray] = many;
            int start = tray * TRAY_PLACES;
            for (int i = 0; i < TRAY_PLACES; i++) {
                numbers[start + i] = 0;
            }
        }

        private boolean isMissing(int tray) {
            return sorts[tray] == NONE;
        }

        private boolean areAlike(int one, int another) {
            return sorts[one] == sorts[another];
        }

        private boolean hasPlace(int tray, int place) {
            return place >= 0 && place < sizes[tray];
        }

        private boolean hasRun(int tray, int place, int many) {
            return (long) place + many <= sizes[tray];
        }

        private boolean startsWithVotes(int tray, int many) {
            for (int i = 0; i < many; i++) {
                long v = at(tray, i);
                if (v < 0 || v > MOST_VOTES) {
                    return false;
                }
            }
            return true;
        }

        private long at(int tray, int place) {
            return numbers[tray * TRAY_PLACES + place];
        }

        private void put(int tray, int place, long v) {
            int spare = 64 - (8 << sorts[tray]);
            numbers[tray * TRAY_PLACES + place] = v << spare >> spare;
        }

        private void copyRun(int from, int place, int to, int at, int many) {
            System.arraycopy(numbers, from * TRAY_PLACES + place, numbers, to * TRAY_PLACES + at, many);
        }
    }

    /** POLLS with the latest DRAW of each LAYER; a LAYER that had 0 POLLS at it has none. */
    private static final class PollBook {
        private final int[] layers = new int[MOST_POLLS];
        private final int[] rolls = new int[MOST_POLLS];
        private final boolean[] isDrawn = new boolean[MOST_POLLS];
        private final boolean[] wasThere = new boolean[MOST_POLLS];
        private final int[] perLayer = new int[LAYERS];
        private final int[] had = new int[LAYERS];
        private final int[] took = new int[LAYERS];
        private int many;

        private int add(int layer, int roll) {
            int poll = many;
            layers[poll] = layer;
            rolls[poll] = roll;
            perLayer[layer]++;
            many++;
            return poll;
        }

        private boolean hasDraw() {
            for (int l = 0; l < LAYERS; l++) {
                if (had[l] > 0) {
                    return true;
                }
            }
            return false;
        }

        private void takeLots(int layer, int take, int firstSeed) {
            had[layer] = perLayer[layer];
            took[layer] = take;
            long seed = firstSeed;
            int left = perLayer[layer];
            int wanted = take;
            for (int p = 0; p < many; p++) {
                if (layers[p] == layer && left > 0) {
                    seed = (seed * 1103515245L + 12345L) & 0x7FFFFFFFL;
                    long lot = seed / 65536;
                    isDrawn[p] = lot % left < wanted;
                    wasThere[p] = true;
                    wanted -= isDrawn[p] ? 1 : 0;
                    left--;
                }
            }
        }
    }

    /** SHEETS as they came; their numbers stand one SHEET behind the other. */
    private static final class SheetBook {
        private final int[] polls = new int[MOST_SHEETS];
        private final int[] minutes = new int[MOST_SHEETS];
        private final boolean[] isGood = new boolean[MOST_SHEETS];
        private final int[] excesses = new int[MOST_SHEETS];
        private final int[] alls = new int[MOST_SHEETS];
        private final int[] numbers = new int[MOST_SHEETS * SHEET_NUMBERS];
        private final int[] knownOf = new int[MOST_POLLS];
        private int many;
        private int latestMinute;

        private int add(int poll, int roll, Trays trays, int tray, int minute, int partyMany) {
            int sheet = many;
            int together = 0;
            for (int i = 0; i < partyMany + 2; i++) {
                int v = (int) trays.at(tray, i);
                numbers[sheet * SHEET_NUMBERS + i] = v;
                together += v;
            }
            int all = numberOf(sheet, partyMany + 1);
            alls[sheet] = all;
            excesses[sheet] = together - 2 * all;
            isGood[sheet] = excesses[sheet] == 0 && all <= roll;
            polls[sheet] = poll;
            minutes[sheet] = minute;
            latestMinute = minute;
            many++;
            return sheet;
        }

        private int numberOf(int sheet, int number) {
            return numbers[sheet * SHEET_NUMBERS + number];
        }

        /** Whether the SHEET would be GOOD with ALL, or else one of its other numbers, changed. */
        private boolean isMended(int sheet, boolean isAll, int change, int roll) {
            int excess = excesses[sheet] + (isAll ? -change : change);
            int all = alls[sheet] + (isAll ? change : 0);
            return excess == 0 && all <= roll;
        }

        private boolean isUsable(int sheet, int minute) {
            return isGood[sheet] && minutes[sheet] <= minute;
        }

        private int findKnownOf(int poll, int minute) {
            for (int s = many - 1; s >= 0; s--) {
                if (polls[s] == poll && isUsable(s, minute)) {
                    return s;
                }
            }
            return NONE;
        }

        /** Minutes never go back, so the SHEET with the highest number is the latest. */
        private void findKnown(int minute) {
            for (int p = 0; p < MOST_POLLS; p++) {
                knownOf[p] = NONE;
            }
            for (int s = 0; s < many; s++) {
                if (isUsable(s, minute)) {
                    knownOf[polls[s]] = s;
                }
            }
        }
    }

    /** Which figures are taken for one another. */
    private static final class Habits {
        private final boolean[] pairs = new boolean[FIGURES * FIGURES];

        private void set(int a, int b, boolean is) {
            pairs[a * FIGURES + b] = is;
            pairs[b * FIGURES + a] = is;
        }

        private boolean are(int a, int b) {
            return pairs[a * FIGURES + b];
        }
    }

    /** For each LAYER, what its DRAWN POLLS have together at a minute. */
    private static final class Land {
        private final int[] knownMany = new int[LAYERS];
        private final long[] together = new long[LAYERS];
        private final long[] squares = new long[LAYERS];
        private final long[] unknownRolls = new long[LAYERS];

        private void tally(PollBook polls, SheetBook sheets, int a, int b) {
            for (int l = 0; l < LAYERS; l++) {
                knownMany[l] = 0;
                together[l] = 0;
                squares[l] = 0;
                unknownRolls[l] = 0;
            }
            for (int p = 0; p < polls.many; p++) {
                if (polls.isDrawn[p]) {
                    tallyPoll(polls, p, sheets, a, b);
                }
            }
        }

        private void tallyPoll(PollBook polls, int poll, SheetBook sheets, int a, int b) {
            int l = polls.layers[poll];
            int sheet = sheets.knownOf[poll];
            if (sheet == NONE) {
                unknownRolls[l] += polls.rolls[poll];
                return;
            }
            long v = sheets.numberOf(sheet, a);
            if (b != NONE) {
                v -= sheets.numberOf(sheet, b);
            }
            knownMany[l]++;
            together[l] += v;
            squares[l] += v * v;
        }

        private boolean hasEnough(PollBook polls, int enough) {
            for (int l = 0; l < LAYERS; l++) {
                if (polls.had[l] > 0 && knownMany[l] < enough) {
                    return false;
                }
            }
            return polls.hasDraw();
        }

        private void tellSum(PollBook polls, Fraction into) {
            into.clear();
            for (int l = 0; l < LAYERS; l++) {
                if (polls.had[l] > 0 && knownMany[l] > 0) {
                    into.add(polls.had[l] * together[l], knownMany[l]);
                }
            }
        }

        /** SPREAD by whole numbers: (m times the squares, less the square of all) by m times (m less 1). */
        private void tellDoubt(PollBook polls, Fraction into) {
            into.clear();
            for (int l = 0; l < LAYERS; l++) {
                long m = knownMany[l];
                if (polls.had[l] > 0 && m > 1) {
                    long spread = m * squares[l] - together[l] * together[l];
                    into.add(polls.had[l] * (polls.had[l] - m) * spread, m * m * (m - 1));
                }
            }
        }

        private void tellWorst(PollBook polls, boolean high, Fraction into) {
            into.clear();
            for (int l = 0; l < LAYERS; l++) {
                if (polls.had[l] > 0) {
                    long votes = together[l] + (high ? unknownRolls[l] : 0);
                    into.add(polls.had[l] * votes, polls.took[l]);
                }
            }
        }
    }

    /** OFFICIAL votes by POLL, and how they stand against the KNOWN SHEETS. */
    private static final class Officials {
        private final boolean[] isTold = new boolean[MOST_POLLS];
        private final int[] votes = new int[MOST_POLLS * MOST_PARTIES];
        private boolean isAny;
        private int offMany;
        private int offAbove;
        private int offTogether;

        private void put(int poll, Trays trays, int tray, int partyMany) {
            for (int i = 0; i < partyMany; i++) {
                votes[poll * MOST_PARTIES + i] = (int) trays.at(tray, i);
            }
            isTold[poll] = true;
            isAny = true;
        }

        private int votesOf(int poll, int party) {
            return votes[poll * MOST_PARTIES + party];
        }

        private void compare(SheetBook sheets, int pollMany, int party) {
            offMany = 0;
            offAbove = 0;
            offTogether = 0;
            for (int p = 0; p < pollMany; p++) {
                int sheet = sheets.knownOf[p];
                if (isTold[p] && sheet != NONE) {
                    int off = votesOf(p, party) - sheets.numberOf(sheet, party);
                    offMany += off != 0 ? 1 : 0;
                    offAbove += off > 0 ? 1 : 0;
                    offTogether += off;
                }
            }
        }
    }

    /**
     * A FRACTION without a common divisor. The largest that comes up is the square of SUM over the
     * divisors of DOUBT: below 6.4e9 times 4.2e8 with 40 POLLS of 2,000, so a long holds all of them.
     */
    private static final class Fraction {
        private long over = 0;
        private long under = 1;

        private void clear() {
            over = 0;
            under = 1;
        }

        private void put(long top, long bottom) {
            long shared = sharedDivisor(Math.abs(top), bottom);
            if (top == 0 || bottom <= 0 || shared <= 0) {
                clear();
            } else {
                over = top / shared;
                under = bottom / shared;
            }
        }

        /** By the least common bottom, for the product of both could leave a long. */
        private void add(long top, long bottom) {
            long mine = under;
            long shared = sharedDivisor(mine, bottom);
            if (bottom > 0 && shared > 0) {
                put(over * (bottom / shared) + top * (mine / shared), mine / shared * bottom);
            }
        }

        private int sign() {
            return over > 0 ? 1 : over < 0 ? -1 : 0;
        }

        /** So many times a FRACTION not below 0, rounded up. */
        private long roundedUp(long times) {
            return under > 0 ? (times * over + under - 1) / under : 0;
        }

        private static long sharedDivisor(long a, long b) {
            long x = a;
            long y = b;
            for (int i = 0; i < 200 && y != 0; i++) {
                long rest = x % y;
                x = y;
                y = rest;
            }
            return x;
        }
    }
}
