import java.math.BigInteger;
import java.util.ArrayList;
import java.util.HashSet;
import java.util.List;
import java.util.Set;
import java.util.TreeSet;

/** A second writing of the document, slow and plain, that ModelTest holds the class against. */
final class Model {
    private record Ratio(BigInteger top, BigInteger bottom) {
        static Ratio of(long top, long bottom) {
            return of(BigInteger.valueOf(top), BigInteger.valueOf(bottom));
        }

        static Ratio of(BigInteger top, BigInteger bottom) {
            BigInteger g = top.gcd(bottom);
            return new Ratio(top.divide(g), bottom.divide(g));
        }

        Ratio plus(Ratio o) {
            return of(top.multiply(o.bottom).add(o.top.multiply(bottom)), bottom.multiply(o.bottom));
        }

        Ratio times(Ratio o) {
            return of(top.multiply(o.top), bottom.multiply(o.bottom));
        }

        Ratio minus(Ratio o) {
            return plus(o.times(of(-1, 1)));
        }

        boolean isAbove(Ratio o) {
            return minus(o).top.signum() > 0;
        }
    }

    private static final class Poll {
        int layer;
        int roll;
        boolean drawn;
        Ratio chance = Ratio.of(0, 1);
        int[] official;
    }

    private static final class Sheet {
        int poll;
        int minute;
        int[] numbers;
    }

    private record Draw(int polls, int taken) {
    }

    int status = 0;
    private Ratio fraction = Ratio.of(0, 1);
    private final int[] sorts = new int[4];
    private final long[][] trays = new long[4][];
    private int parties = 2;
    private final List<Poll> polls = new ArrayList<>();
    private final List<Sheet> sheets = new ArrayList<>();
    private final Draw[] draws = new Draw[4];
    private final Set<Integer> habits = new HashSet<>();

    long top() {
        return fraction.top.longValueExact();
    }

    long bottom() {
        return fraction.bottom.longValueExact();
    }

    private long no(int why) {
        status = why;
        return -1;
    }

    private long yes(long answer) {
        status = 0;
        return answer;
    }

    private long fail(int why) {
        status = why;
        return 0;
    }

    private static boolean in(long v, long least, long most) {
        return v >= least && v <= most;
    }

    private long tell(Ratio r) {
        fraction = r;
        return yes(r.top.signum());
    }

    long tray(int tray, int sort, int many) {
        if (!in(tray, 0, 3) || !in(sort, 0, 3) || !in(many, 0, 20)) return fail(1);
        sorts[tray] = sort;
        trays[tray] = new long[many];
        return yes(1);
    }

    private int placeStatus(int tray, int place) {
        if (!in(tray, 0, 3)) return 1;
        if (trays[tray] == null) return 3;
        return in(place, 0, trays[tray].length - 1) ? 0 : 4;
    }

    long write(int tray, int place, long v) {
        int why = placeStatus(tray, place);
        if (why != 0) return fail(why);
        trays[tray][place] = switch (sorts[tray]) {
            case 0 -> (byte) v;
            case 1 -> (short) v;
            case 2 -> (int) v;
            default -> v;
        };
        return yes(1);
    }

    long read(int tray, int place) {
        int why = placeStatus(tray, place);
        return why != 0 ? no(why) : yes(trays[tray][place]);
    }

    long pour(int from, int place, int to, int at, int many) {
        if (!in(from, 0, 3) || !in(to, 0, 3) || place < 0 || at < 0 || many < 0) return fail(1);
        if (trays[from] == null || trays[to] == null) return fail(3);
        if (sorts[from] != sorts[to]) return fail(8);
        if ((long) place + many > trays[from].length || (long) at + many > trays[to].length) return fail(4);
        long[] copy = trays[from].clone();
        for (int i = 0; i < many; i++) trays[to][at + i] = copy[place + i];
        return yes(1);
    }

    long parties(int many) {
        if (!in(many, 2, 4)) return fail(1);
        if (!sheets.isEmpty() || polls.stream().anyMatch(p -> p.official != null)) return fail(7);
        parties = many;
        return yes(1);
    }

    long poll(int layer, int roll) {
        if (!in(layer, 0, 3) || !in(roll, 1, 2000)) return no(1);
        if (polls.size() == 40) return no(7);
        Poll p = new Poll();
        p.layer = layer;
        p.roll = roll;
        polls.add(p);
        return yes(polls.size() - 1);
    }

    long draw(int layer, int many, int seed) {
        List<Poll> of = polls.stream().filter(p -> p.layer == layer).toList();
        if (!in(layer, 0, 3) || !in(many, 1, of.size()) || seed < 0) return fail(1);
        BigInteger s = BigInteger.valueOf(seed);
        int h = many;
        for (int i = 0; i < of.size(); i++) {
            s = s.multiply(BigInteger.valueOf(1103515245)).add(BigInteger.valueOf(12345)).mod(BigInteger.ONE.shiftLeft(31));
            long lot = s.longValueExact() / 65536;
            Poll p = of.get(i);
            p.drawn = lot % (of.size() - i) < h;
            if (p.drawn) h--;
            p.chance = Ratio.of(many, of.size());
        }
        draws[layer] = new Draw(of.size(), many);
        return yes(1);
    }

    long told(int poll, int what) {
        if (!in(poll, 0, polls.size() - 1) || !in(what, 0, 2)) return no(1);
        Poll p = polls.get(poll);
        return yes(what == 0 ? p.layer : what == 1 ? p.roll : p.drawn ? 1 : 0);
    }

    long chance(int poll) {
        if (!in(poll, 0, polls.size() - 1)) return no(1);
        return tell(polls.get(poll).chance);
    }

    private int votesStatus(int tray, int many) {
        if (trays[tray] == null) return 3;
        if (trays[tray].length < many) return 4;
        for (int i = 0; i < many; i++) if (!in(trays[tray][i], 0, 9999)) return 1;
        return 0;
    }

    private int[] firstOf(int tray, int many) {
        int[] numbers = new int[many];
        for (int i = 0; i < many; i++) numbers[i] = (int) trays[tray][i];
        return numbers;
    }

    long sheet(int poll, int tray, int minute) {
        if (!in(poll, 0, polls.size() - 1) || !in(tray, 0, 3) || !in(minute, 0, 10000)) return no(1);
        if (!sheets.isEmpty() && minute < sheets.get(sheets.size() - 1).minute) return no(2);
        int why = votesStatus(tray, parties + 2);
        if (why != 0) return no(why);
        if (sheets.size() == 120) return no(7);
        Sheet s = new Sheet();
        s.poll = poll;
        s.minute = minute;
        s.numbers = firstOf(tray, parties + 2);
        sheets.add(s);
        return yes(sheets.size() - 1);
    }

    private boolean isGood(int poll, int[] numbers) {
        int together = 0;
        for (int i = 0; i <= parties; i++) together += numbers[i];
        return together == numbers[parties + 1] && numbers[parties + 1] <= polls.get(poll).roll;
    }

    private boolean isGood(Sheet s) {
        return isGood(s.poll, s.numbers);
    }

    long good(int sheet) {
        if (!in(sheet, 0, sheets.size() - 1)) return no(1);
        return yes(isGood(sheets.get(sheet)) ? 1 : 0);
    }

    long habit(int a, int b, boolean is) {
        if (!in(a, 0, 9) || !in(b, 0, 9) || a == b) return fail(1);
        int pair = 10 * Math.min(a, b) + Math.max(a, b);
        if (is) habits.add(pair);
        else habits.remove(pair);
        return yes(1);
    }

    long slip(int sheet, int k) {
        if (!in(sheet, 0, sheets.size() - 1)) return no(1);
        Sheet s = sheets.get(sheet);
        if (k < 0 || isGood(s)) return no(6);
        TreeSet<Integer> slips = new TreeSet<>();
        for (int n = 0; n < parties + 2; n++) {
            String figures = String.valueOf(s.numbers[n]);
            for (int i = 0; i < figures.length(); i++) {
                for (int pair : habits) {
                    int was = figures.charAt(i) - '0';
                    if (was != pair / 10 && was != pair % 10) continue;
                    int to = was == pair / 10 ? pair % 10 : pair / 10;
                    int[] numbers = s.numbers.clone();
                    numbers[n] = Integer.parseInt(figures.substring(0, i) + to + figures.substring(i + 1));
                    if (isGood(s.poll, numbers)) slips.add(100 * n + 10 * (figures.length() - 1 - i) + to);
                }
            }
        }
        return k < slips.size() ? yes(new ArrayList<>(slips).get(k)) : no(6);
    }

    private int knownOf(int poll, int minute) {
        int best = -1;
        for (int i = 0; i < sheets.size(); i++) {
            Sheet s = sheets.get(i);
            if (s.poll == poll && s.minute <= minute && isGood(s)
                && (best == -1 || s.minute >= sheets.get(best).minute)) best = i;
        }
        return best;
    }

    long known(int poll, int minute) {
        if (!in(poll, 0, polls.size() - 1) || !in(minute, 0, 10000)) return no(1);
        int s = knownOf(poll, minute);
        return s == -1 ? no(6) : yes(s);
    }

    /** What the KNOWN DRAWN ones of a LAYER have. */
    private List<Long> valuesOf(int layer, int a, int b, int minute) {
        List<Long> values = new ArrayList<>();
        for (int p = 0; p < polls.size(); p++) {
            int s = knownOf(p, minute);
            if (polls.get(p).layer != layer || !polls.get(p).drawn || s == -1) continue;
            int[] numbers = sheets.get(s).numbers;
            values.add((long) numbers[a] - (b == -1 ? 0 : numbers[b]));
        }
        return values;
    }

    long layer(int layer, int what, int minute) {
        if (!in(layer, 0, 3) || !in(what, 0, 2) || !in(minute, 0, 10000)) return no(1);
        if (draws[layer] == null) return no(6);
        return yes(what == 0 ? draws[layer].taken : what == 1 ? valuesOf(layer, 0, -1, minute).size() : draws[layer].polls);
    }

    private boolean isPair(int a, int b, int minute) {
        return in(a, 0, parties - 1) && in(b, -1, parties - 1) && a != b && in(minute, 0, 10000);
    }

    private boolean isOpen(int minute, int enough) {
        int layers = 0;
        for (int l = 0; l < 4; l++) {
            if (draws[l] == null) continue;
            layers++;
            if (valuesOf(l, 0, -1, minute).size() < enough) return true;
        }
        return layers == 0;
    }

    private Ratio sumOf(int a, int b, int minute) {
        Ratio sum = Ratio.of(0, 1);
        for (int l = 0; l < 4; l++) {
            if (draws[l] == null) continue;
            List<Long> values = valuesOf(l, a, b, minute);
            Ratio each = Ratio.of(draws[l].polls, values.size());
            for (long v : values) sum = sum.plus(each.times(Ratio.of(v, 1)));
        }
        return sum;
    }

    private Ratio doubtOf(int a, int b, int minute) {
        Ratio doubt = Ratio.of(0, 1);
        for (int l = 0; l < 4; l++) {
            if (draws[l] == null) continue;
            List<Long> values = valuesOf(l, a, b, minute);
            int n = draws[l].polls;
            int m = values.size();
            Ratio mean = Ratio.of(values.stream().mapToLong(v -> v).sum(), m);
            Ratio spread = Ratio.of(0, 1);
            for (long v : values) {
                Ratio far = Ratio.of(v, 1).minus(mean);
                spread = spread.plus(far.times(far));
            }
            doubt = doubt.plus(spread.times(Ratio.of(1, m - 1)).times(Ratio.of((long) n * (n - m), m)));
        }
        return doubt;
    }

    private Ratio worstOf(int party, int minute, boolean high) {
        Ratio worst = Ratio.of(0, 1);
        for (int p = 0; p < polls.size(); p++) {
            Poll poll = polls.get(p);
            if (!poll.drawn) continue;
            int s = knownOf(p, minute);
            int has = s != -1 ? sheets.get(s).numbers[party] : high ? poll.roll : 0;
            worst = worst.plus(Ratio.of((long) draws[poll.layer].polls * has, draws[poll.layer].taken));
        }
        return worst;
    }

    long sum(int a, int b, int minute) {
        if (!isPair(a, b, minute)) return no(1);
        return isOpen(minute, 1) ? no(5) : tell(sumOf(a, b, minute));
    }

    long doubt(int a, int b, int minute) {
        if (!isPair(a, b, minute)) return no(1);
        return isOpen(minute, 2) ? no(5) : tell(doubtOf(a, b, minute));
    }

    long margin(int a, int b, int minute) {
        if (!isPair(a, b, minute)) return no(1);
        if (isOpen(minute, 2)) return no(5);
        Ratio four = doubtOf(a, b, minute).times(Ratio.of(4, 1));
        BigInteger root = four.top.divide(four.bottom).sqrt();
        while (four.isAbove(Ratio.of(root.multiply(root), BigInteger.ONE))) root = root.add(BigInteger.ONE);
        return yes(root.longValueExact());
    }

    long worst(int party, int minute, boolean high) {
        if (!in(party, 0, parties - 1) || !in(minute, 0, 10000)) return no(1);
        return isOpen(minute, 0) ? no(5) : tell(worstOf(party, minute, high));
    }

    long ahead(int a, int b, int minute) {
        if (!isPair(a, b, minute) || b == -1) return no(1);
        if (isOpen(minute, 2)) return no(5);
        Ratio sum = sumOf(a, b, minute);
        boolean isAhead = sum.top.signum() > 0
            && sum.times(sum).isAbove(doubtOf(a, b, minute).times(Ratio.of(4, 1)));
        if (!isAhead) return yes(0);
        return yes(worstOf(a, minute, false).isAbove(worstOf(b, minute, true)) ? 2 : 1);
    }

    long official(int poll, int tray) {
        if (!in(poll, 0, polls.size() - 1) || !in(tray, 0, 3)) return fail(1);
        int why = votesStatus(tray, parties);
        if (why != 0) return fail(why);
        polls.get(poll).official = firstOf(tray, parties);
        return yes(1);
    }

    /** OFF of all POLLS with both. */
    private List<Integer> offsOf(int party, int minute) {
        List<Integer> offs = new ArrayList<>();
        for (int p = 0; p < polls.size(); p++) {
            int s = knownOf(p, minute);
            int[] official = polls.get(p).official;
            if (s != -1 && official != null) offs.add(official[party] - sheets.get(s).numbers[party]);
        }
        return offs;
    }

    long off(int poll, int party, int minute) {
        if (!in(poll, 0, polls.size() - 1) || !in(party, 0, parties - 1) || !in(minute, 0, 10000)) return no(1);
        int s = knownOf(poll, minute);
        int[] official = polls.get(poll).official;
        return s == -1 || official == null ? no(6) : yes(official[party] - sheets.get(s).numbers[party]);
    }

    long offs(int party, int what, int minute) {
        if (!in(party, 0, parties - 1) || !in(what, 0, 2) || !in(minute, 0, 10000)) return no(1);
        List<Integer> offs = offsOf(party, minute);
        return yes(what == 2 ? offs.stream().mapToInt(o -> o).sum()
            : offs.stream().filter(o -> what == 0 ? o != 0 : o > 0).count());
    }

    long lean(int party, int minute) {
        if (!in(party, 0, parties - 1) || !in(minute, 0, 10000)) return no(1);
        List<Integer> offs = offsOf(party, minute);
        int n = (int) offs.stream().filter(o -> o != 0).count();
        int k = (int) offs.stream().filter(o -> o > 0).count();
        BigInteger[] row = {BigInteger.ONE};
        for (int i = 0; i < n; i++) {
            BigInteger[] next = new BigInteger[i + 2];
            for (int j = 0; j < next.length; j++) {
                next[j] = (j > 0 ? row[j - 1] : BigInteger.ZERO).add(j < row.length ? row[j] : BigInteger.ZERO);
            }
            row = next;
        }
        BigInteger ways = BigInteger.ZERO;
        for (int j = k; j <= n; j++) ways = ways.add(row[j]);
        fraction = Ratio.of(ways, BigInteger.ONE.shiftLeft(n));
        return yes(1);
    }
}
