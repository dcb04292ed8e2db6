import java.math.BigInteger;
import java.util.ArrayList;
import java.util.Arrays;
import java.util.Comparator;
import java.util.List;
import java.util.Map;
import java.util.Random;
import java.util.TreeMap;

/**
 * Runs of calls from fixed seeds, every answer beside that of a slow model made in another way:
 * fractions of any size, a new land for every look. It finds slips, not a wrong reading of the
 * document, since the reading is the same.
 */
public final class ModelTest {
    private static final int RUNS = 4000;
    /** An object is used for at most 512 calls, and one step of a run makes at most 5. */
    private static final int CALLS = 512 - 5;
    private static final BigInteger FINEST = BigInteger.valueOf(1000000);
    private static int wrong = 0;
    private static final int[] reasonsSeen = new int[12];
    private static int refusedDays = 0;
    private static int refusedDeeds = 0;

    private record Fraction(BigInteger num, BigInteger den) {
        static final Fraction ZERO = of(0, 1);

        static Fraction of(long num, long den) {
            return of(BigInteger.valueOf(num), BigInteger.valueOf(den));
        }

        static Fraction of(BigInteger num, BigInteger den) {
            BigInteger common = num.gcd(den);
            return new Fraction(num.divide(common), den.divide(common));
        }

        Fraction plus(Fraction o) {
            return of(num.multiply(o.den).add(o.num.multiply(den)), den.multiply(o.den));
        }

        Fraction minus(Fraction o) {
            return plus(new Fraction(o.num.negate(), o.den));
        }

        boolean isTooFine() {
            return den.compareTo(FINEST) > 0;
        }

        long packed() {
            return num.signum() == 0 ? 0 : num.longValueExact() << 32 | den.longValueExact();
        }
    }

    private record Mortgage(int creditor, int amount) { }

    private static final class Land {
        long area;
        Map<Integer, Fraction> shares = new TreeMap<>();
        List<Mortgage> mortgages = new ArrayList<>();
        TreeMap<Integer, Boolean> cautions = new TreeMap<>();

        Land part(long itsArea) {
            Land part = new Land();
            part.area = itsArea;
            part.shares.putAll(shares);
            part.mortgages.addAll(mortgages);
            return part;
        }
    }

    private record Deed(int number, int record, int fact, String kind, int[] a, long fraction) { }

    private static final class View {
        final TreeMap<Integer, Land> land = new TreeMap<>();
        final Map<Integer, List<Integer>> origins = new TreeMap<>();
        final Map<Integer, Integer> states = new TreeMap<>();

        View(List<Deed> deeds, int rec, int fact) {
            List<Deed> seen = new ArrayList<>();
            for (Deed d : deeds) {
                if (d.record <= rec && d.fact <= fact) {
                    seen.add(d);
                }
            }
            seen.sort(Comparator.comparingInt(Deed::fact).thenComparingInt(Deed::number));
            for (Deed d : seen) {
                int reason = apply(d);
                reasonsSeen[reason]++;
                states.put(d.number, reason);
            }
        }

        private int apply(Deed d) {
            if (d.kind.equals("found")) {
                Land made = new Land();
                made.area = d.a[0];
                made.shares.put(d.a[1], Fraction.of(1, 1));
                land.put(2 * d.number, made);
                return 0;
            }
            Land p = land.get(d.a[0]);
            Land q = d.kind.equals("merge") ? land.get(d.a[1]) : p;
            if (p == null || q == null) {
                return 1;
            }
            boolean minds = !List.of("release", "caution", "lift").contains(d.kind);
            if (minds && !(p.cautions.isEmpty() && q.cautions.isEmpty())) {
                return 2;
            }
            switch (d.kind) {
                case "sell": return sell(p, d.a[1], d.a[2], Fraction.of(d.fraction >>> 32, d.fraction & 0xFFFFFFFFL));
                case "pledge": return pledge(p, new Mortgage(d.a[1], d.a[2]));
                case "rerank": return rerank(p, d.a[1], d.a[2], d.a[3]);
                case "release": return release(p, d.a[1]);
                case "caution": return p.cautions.put(d.a[1], true) == null ? 0 : 8;
                case "lift": return p.cautions.remove(d.a[1]) == null ? 8 : 0;
                case "split": return split(d, p);
                default: return merge(d, p, q);
            }
        }

        private int sell(Land p, int from, int to, Fraction sold) {
            Fraction rest = p.shares.getOrDefault(from, Fraction.ZERO).minus(sold);
            Fraction got = p.shares.getOrDefault(to, Fraction.ZERO).plus(sold);
            if (rest.num.signum() < 0) {
                return 3;
            }
            if (rest.isTooFine() || got.isTooFine()) {
                return 4;
            }
            p.shares.put(to, got);
            p.shares.put(from, rest);
            p.shares.values().removeIf(f -> f.num.signum() == 0);
            return 0;
        }

        private int pledge(Land p, Mortgage m) {
            if (p.mortgages.size() == 4) {
                return 5;
            }
            p.mortgages.add(m);
            return 0;
        }

        private int rerank(Land p, int from, int to, int consents) {
            if (from > p.mortgages.size() || to > p.mortgages.size()) {
                return 6;
            }
            List<Integer> before = new ArrayList<>(List.of(0, 1, 2, 3).subList(0, p.mortgages.size()));
            List<Integer> after = new ArrayList<>(before);
            after.add(to - 1, after.remove(from - 1));
            for (int m : before) {
                if (after.indexOf(m) > m) {
                    int creditor = p.mortgages.get(m).creditor;
                    boolean gains = false;
                    for (int o : before) {
                        gains |= after.indexOf(o) < o && p.mortgages.get(o).creditor == creditor;
                    }
                    if (!gains && (consents & (1 << creditor)) == 0) {
                        return 7;
                    }
                }
            }
            List<Mortgage> old = List.copyOf(p.mortgages);
            for (int r = 0; r < old.size(); r++) {
                p.mortgages.set(r, old.get(after.get(r)));
            }
            return 0;
        }

        private int release(Land p, int rank) {
            if (rank > p.mortgages.size()) {
                return 6;
            }
            p.mortgages.remove(rank - 1);
            return 0;
        }

        private int split(Deed d, Land p) {
            if (d.a[1] >= p.area) {
                return 9;
            }
            land.remove(d.a[0]);
            land.put(2 * d.number, p.part(d.a[1]));
            land.put(2 * d.number + 1, p.part(p.area - d.a[1]));
            origins.put(2 * d.number, List.of(d.a[0]));
            origins.put(2 * d.number + 1, List.of(d.a[0]));
            return 0;
        }

        private int merge(Deed d, Land p, Land q) {
            if (!p.shares.equals(q.shares)) {
                return 10;
            }
            if (!p.mortgages.equals(q.mortgages)) {
                return 11;
            }
            land.remove(d.a[0]);
            land.remove(d.a[1]);
            land.put(2 * d.number, p.part(p.area + q.area));
            origins.put(2 * d.number, List.of(d.a[0], d.a[1]));
            return 0;
        }
    }

    /** One run: the register beside the model, with calls drawn from one seed. */
    private static final class Run {
        final long seed;
        final Random random;
        final LandRegister register = new LandRegister();
        final List<Deed> deeds = new ArrayList<>();
        final StringBuilder told = new StringBuilder();
        View view = new View(deeds, 0, 0);
        int today = 0;
        /** In wild runs arguments reach past their bounds; in tame ones deeds mostly fit. */
        final boolean wild;
        final boolean fine;
        /** Runs with long waits come to day 60, the others to 40 deeds. */
        final boolean slow;

        Run(long seed) {
            this.seed = seed;
            this.random = new Random(seed);
            this.wild = seed % 3 == 0;
            this.fine = seed % 5 == 0;
            this.slow = seed % 4 == 0;
        }

        int upTo(int low, int high) {
            int reach = wild && random.nextInt(12) == 0 ? 1 : 0;
            return low - reach + random.nextInt(high - low + 1 + 2 * reach);
        }

        int someParcel() {
            List<Integer> living = new ArrayList<>(view.land.keySet());
            if (!living.isEmpty() && random.nextInt(8) != 0) {
                return living.get(random.nextInt(living.size()));
            }
            return random.nextBoolean() ? upTo(0, 79) : random.nextInt(2 * deeds.size() + 2);
        }

        int person() {
            return random.nextInt(3) == 0 ? upTo(0, 7) : random.nextInt(3);
        }

        int factDay() {
            return random.nextInt(3) == 0 ? upTo(0, today) : today;
        }

        long fraction() {
            if (wild && random.nextInt(10) == 0) {
                return random.nextLong();
            }
            int den = fine ? upTo(1, 1000000) : random.nextInt(12) + 1;
            return (long) upTo(1, Math.max(1, den)) << 32 | (den & 0xFFFFFFFFL);
        }

        void due(String call, Object got, Object want) {
            told.append(call).append(" -> ").append(got).append('\n');
            if (!got.equals(want)) {
                wrong++;
                System.out.println("seed " + seed + ": " + call + " answered " + got + ", due is " + want);
                if (wrong == 1) {
                    System.out.println(told);
                }
            }
        }

        void file(String kind, boolean fits, int[] a, long fraction) {
            Object want;
            int fact = factDay();
            if (!fits || fact < 0 || fact > today) {
                want = "IllegalArgumentException";
            } else if (deeds.size() == 40) {
                want = "IllegalStateException";
                refusedDeeds++;
            } else {
                want = (long) deeds.size();
                deeds.add(new Deed(deeds.size(), today, fact, kind, a, fraction));
                view = new View(deeds, today, today);
            }
            String call = kind + "(" + fact + ", " + Arrays.toString(a) + ", " + fraction + ")";
            due(call, answer(() -> fileIn(kind, fact, a, fraction)), want);
        }

        long fileIn(String kind, int fact, int[] a, long fraction) {
            switch (kind) {
                case "found": return register.found(fact, a[0], a[1]);
                case "sell": return register.sell(fact, a[0], a[1], a[2], fraction);
                case "pledge": return register.pledge(fact, a[0], a[1], a[2]);
                case "rerank": return register.rerank(fact, a[0], a[1], a[2], a[3]);
                case "release": return register.release(fact, a[0], a[1]);
                case "caution": return register.caution(fact, a[0], a[1]);
                case "lift": return register.lift(fact, a[0], a[1]);
                case "split": return register.split(fact, a[0], a[1]);
                default: return register.merge(fact, a[0], a[1]);
            }
        }

        boolean isParcel(int p) {
            return p >= 0 && p < 80;
        }

        boolean isPerson(int p) {
            return p >= 0 && p < 8;
        }

        boolean isRank(int r) {
            return r >= 1 && r <= 4;
        }

        boolean isFraction(long f) {
            int num = (int) (f >>> 32);
            int den = (int) f;
            return den >= 1 && den <= 1000000 && num >= 1 && num <= den;
        }

        void fileOne() {
            int p = someParcel();
            int one = person();
            int other = person();
            switch (random.nextInt(16)) {
                case 0: case 1:
                    int area = random.nextInt(4) == 0 ? 1000000000 - upTo(0, 1) : upTo(1, 20);
                    file("found", area >= 1 && area <= 1000000000 && isPerson(one), new int[] {area, one}, 0);
                    break;
                case 2: case 3: case 4:
                    long f = fraction();
                    file("sell", isParcel(p) && isPerson(one) && isPerson(other) && one != other && isFraction(f),
                            new int[] {p, one, other}, f);
                    break;
                case 5: case 6: case 13: case 14:
                    int amount = upTo(1, 3);
                    file("pledge", isParcel(p) && isPerson(one) && amount >= 1, new int[] {p, one, amount}, 0);
                    break;
                case 7: case 15:
                    int from = upTo(1, 4);
                    int to = upTo(1, 4);
                    file("rerank", isParcel(p) && isRank(from) && isRank(to) && from != to,
                            new int[] {p, from, to, random.nextInt(3) == 0 ? random.nextInt() : random.nextInt(8)}, 0);
                    break;
                case 8:
                    int rank = upTo(1, 4);
                    file("release", isParcel(p) && isRank(rank), new int[] {p, rank}, 0);
                    break;
                case 9:
                    file("caution", isParcel(p) && isPerson(one), new int[] {p, one}, 0);
                    break;
                case 10:
                    file("lift", isParcel(p) && isPerson(one), new int[] {p, one}, 0);
                    break;
                case 11:
                    int part = random.nextInt(6) == 0 ? 1000000000 : upTo(1, 12);
                    file("split", isParcel(p) && part >= 1, new int[] {p, part}, 0);
                    break;
                default:
                    int q = random.nextInt(3) == 0 ? p ^ 1 : someParcel();
                    file("merge", isParcel(p) && isParcel(q) && p != q, new int[] {p, q}, 0);
            }
        }

        void nextDay() {
            Object want = "IllegalStateException";
            if (today < 60) {
                today++;
                want = (long) today;
                view = new View(deeds, today, today);
            } else {
                refusedDays++;
            }
            due("day()", answer(register::day), want);
        }

        void look() {
            int rec = upTo(0, today);
            int fact = random.nextInt(4) == 0 ? upTo(0, 60) : upTo(0, today);
            Object want = "IllegalArgumentException";
            if (rec >= 0 && rec <= today && fact >= 0 && fact <= 60) {
                view = new View(deeds, rec, fact);
                want = (long) view.land.size();
            }
            due("view(" + rec + ", " + fact + ")", answer(() -> register.view(rec, fact)), want);
        }

        Object nth(List<Integer> list, int i) {
            return i >= 0 && i < list.size() ? (long) list.get(i) : -1L;
        }

        void askOfParcels() {
            int p = someParcel();
            int person = person();
            int rank = upTo(0, 5);
            int what = upTo(0, 1);
            int i = upTo(-1, 2);
            Land l = view.land.get(p);
            Object no = isParcel(p) ? null : "IllegalArgumentException";
            due("area(" + p + ")", answer(() -> register.area(p)), no != null ? no : l == null ? 0L : l.area);
            due("share(" + p + ", " + person + ")", answer(() -> register.share(p, person)),
                    no != null || !isPerson(person) ? "IllegalArgumentException"
                            : l == null ? 0L : l.shares.getOrDefault(person, Fraction.ZERO).packed());
            Mortgage m = l != null && rank >= 1 && rank <= l.mortgages.size() ? l.mortgages.get(rank - 1) : null;
            due("mortgage(" + p + ", " + rank + ", " + what + ")", answer(() -> register.mortgage(p, rank, what)),
                    no != null ? no : m == null ? -1L : what == 0 ? (long) m.creditor : what == 1 ? m.amount : -1L);
            long bits = 0;
            for (int c : l == null ? List.<Integer>of() : l.cautions.keySet()) {
                bits += 1L << c;
            }
            due("cautions(" + p + ")", answer(() -> register.cautions(p)), no != null ? no : bits);
            int made = random.nextInt(2 * deeds.size() + 1);
            due("origin(" + made + ", " + i + ")", answer(() -> register.origin(made, i)),
                    !isParcel(made) ? "IllegalArgumentException" : nth(view.origins.getOrDefault(made, List.of()), i));
        }

        void askOfPersons() {
            int person = person();
            int i = random.nextInt(6) - 1;
            List<Integer> held = new ArrayList<>();
            long owed = 0;
            for (Map.Entry<Integer, Land> e : view.land.entrySet()) {
                if (e.getValue().shares.containsKey(person)) {
                    held.add(e.getKey());
                }
                for (Mortgage m : e.getValue().mortgages) {
                    owed += m.creditor == person ? m.amount : 0;
                }
            }
            Object no = isPerson(person) ? null : "IllegalArgumentException";
            due("holding(" + person + ", " + i + ")", answer(() -> register.holding(person, i)),
                    no != null ? no : nth(held, i));
            due("owed(" + person + ")", answer(() -> register.owed(person)), no != null ? no : owed);
            due("parcel(" + i + ")", answer(() -> register.parcel(i)), nth(new ArrayList<>(view.land.keySet()), i));
            int deed = random.nextInt(deeds.size() + 2) - 1;
            due("state(" + deed + ")", answer(() -> register.state(deed)),
                    deed < 0 || deed >= deeds.size() ? "IndexOutOfBoundsException"
                            : (long) view.states.getOrDefault(deed, -1));
        }

        void go() {
            int calls = 0;
            while (calls < CALLS) {
                int kind = random.nextInt(10);
                if (slow && kind < 3) {
                    nextDay();
                } else if (kind < 4) {
                    fileOne();
                } else if (kind == 4) {
                    nextDay();
                } else if (kind == 5) {
                    look();
                } else if (kind < 8) {
                    askOfParcels();
                    calls += 4;
                } else {
                    askOfPersons();
                    calls += 3;
                }
                calls++;
            }
        }
    }

    private interface Call {
        long make();
    }

    private static Object answer(Call call) {
        try {
            return call.make();
        } catch (RuntimeException e) {
            return e.getClass().getSimpleName();
        }
    }

    public static void main(String[] args) {
        for (int seed = 1; seed <= RUNS && wrong < 20; seed++) {
            new Run(seed).go();
        }
        for (int reason = 0; reason < reasonsSeen.length; reason++) {
            if (reasonsSeen[reason] == 0) {
                System.out.println("the runs never came to reason " + reason);
                wrong++;
            }
        }
        if (refusedDays == 0 || refusedDeeds == 0) {
            System.out.println("the runs never came to the last day, or never to 40 deeds");
            wrong++;
        }
        System.out.println("how often each reason came: " + Arrays.toString(reasonsSeen) + "; refused days: "
                + refusedDays + ", deeds: " + refusedDeeds);
        System.out.println(wrong == 0 ? RUNS + " runs are as due" : wrong + " answers are not as due");
        if (wrong != 0) {
            System.exit(1);
        }
    }
}
