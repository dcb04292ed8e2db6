import java.util.Arrays;

/**
 * A land register with two times. Every deed is kept with the day on which it was filed and the
 * day from which it holds; what is told of parcels and deeds is found by going through the deeds
 * anew, because a deed that comes late may change what became of all that hold after it.
 */
public final class LandRegister {
    public static final int NONE = -1;

    private static final int LAST_DAY = 60;
    private static final int MOST_DEEDS = 40;
    private static final int PARCELS = 2 * MOST_DEEDS;
    private static final int PERSONS = 8;
    private static final int MOST_MORTGAGES = 4;
    private static final int MOST_UNITS = 1000000000;
    private static final long MOST_PARTS = 1000000;

    private static final int DONE = 0;
    private static final int NOT_ALIVE = 1;
    private static final int HAS_CAUTION = 2;
    private static final int SHARE_TOO_SMALL = 3;
    private static final int SHARE_TOO_FINE = 4;
    private static final int MORTGAGES_FULL = 5;
    private static final int NO_SUCH_RANK = 6;
    private static final int CONSENT_LACKING = 7;
    private static final int CAUTION_AMISS = 8;
    private static final int PART_TOO_GREAT = 9;
    private static final int SHARES_DIFFER = 10;
    private static final int MORTGAGES_DIFFER = 11;

    /** A share as share() answers it: the numerator above the denominator; NO_SHARE for none. */
    private static final long NO_SHARE = 0;
    private static final long WHOLE = 1L << 32 | 1;
    private static final long TOO_FINE = -1;
    private static final long LOWER_BITS = 0xFFFFFFFFL;

    /** Far above what Euclid's way needs for numbers below 2 to the 42. */
    private static final int MOST_STEPS = 100;

    private final Deed[] byNumber = new Deed[MOST_DEEDS];
    private final Deed[] byFactDay = new Deed[MOST_DEEDS];
    private final Parcel[] parcels = new Parcel[PARCELS];
    private int filed;
    private int today;

    public LandRegister() {
        for (int p = 0; p < PARCELS; p++) {
            parcels[p] = new Parcel();
        }
    }

    public int found(int fact, int area, int owner)
            throws IllegalArgumentException, IllegalStateException {
        requireFactDay(fact);
        requirePerson(owner);
        requireUnits(area);
        requireFreeNumber();
        return file(fact, new Found(area, owner));
    }

    public int sell(int fact, int parcel, int from, int to, long fraction)
            throws IllegalArgumentException, IllegalStateException {
        requireFactDay(fact);
        requireParcel(parcel);
        requirePerson(from);
        requirePerson(to);
        requireDifferent(from, to);
        requireFraction(fraction);
        requireFreeNumber();
        return file(fact, new Sell(parcel, from, to, fraction));
    }

    public int pledge(int fact, int parcel, int creditor, int amount)
            throws IllegalArgumentException, IllegalStateException {
        requireFactDay(fact);
        requireParcel(parcel);
        requirePerson(creditor);
        requireUnits(amount);
        requireFreeNumber();
        return file(fact, new Pledge(parcel, creditor, amount));
    }

    public int rerank(int fact, int parcel, int from, int to, int consents)
            throws IllegalArgumentException, IllegalStateException {
        requireFactDay(fact);
        requireParcel(parcel);
        requireRank(from);
        requireRank(to);
        requireDifferent(from, to);
        requireFreeNumber();
        return file(fact, new Rerank(parcel, from, to, consents));
    }

    public int release(int fact, int parcel, int rank)
            throws IllegalArgumentException, IllegalStateException {
        requireFactDay(fact);
        requireParcel(parcel);
        requireRank(rank);
        requireFreeNumber();
        return file(fact, new Release(parcel, rank));
    }

    public int caution(int fact, int parcel, int person)
            throws IllegalArgumentException, IllegalStateException {
        requireFactDay(fact);
        requireParcel(parcel);
        requirePerson(person);
        requireFreeNumber();
        return file(fact, new Caution(parcel, person));
    }

    public int lift(int fact, int parcel, int person)
            throws IllegalArgumentException, IllegalStateException {
        requireFactDay(fact);
        requireParcel(parcel);
        requirePerson(person);
        requireFreeNumber();
        return file(fact, new Lift(parcel, person));
    }

    public int split(int fact, int parcel, int area)
            throws IllegalArgumentException, IllegalStateException {
        requireFactDay(fact);
        requireParcel(parcel);
        requireUnits(area);
        requireFreeNumber();
        return file(fact, new Split(parcel, area));
    }

    public int merge(int fact, int a, int b)
            throws IllegalArgumentException, IllegalStateException {
        requireFactDay(fact);
        requireParcel(a);
        requireParcel(b);
        requireDifferent(a, b);
        requireFreeNumber();
        return file(fact, new Merge(a, b));
    }

    public int day() throws IllegalStateException {
        if (today >= LAST_DAY) {
            throw new IllegalStateException("it is the last day");
        }
        today++;
        lookAt(today, today);
        return today;
    }

    public int view(int rec, int fact) throws IllegalArgumentException {
        if (rec < 0 || rec > today || fact < 0 || fact > LAST_DAY) {
            throw new IllegalArgumentException("no such view");
        }
        lookAt(rec, fact);
        int living = 0;
        for (int p = 0; p < PARCELS; p++) {
            if (parcels[p].lives) {
                living++;
            }
        }
        return living;
    }

    public int parcel(int i) {
        int before = 0;
        for (int p = 0; p < PARCELS; p++) {
            if (parcels[p].lives) {
                if (before == i) {
                    return p;
                }
                before++;
            }
        }
        return NONE;
    }

    public long area(int parcel) throws IllegalArgumentException {
        requireParcel(parcel);
        Parcel p = parcels[parcel];
        return p.lives ? p.area : 0;
    }

    public long share(int parcel, int person) throws IllegalArgumentException {
        requireParcel(parcel);
        requirePerson(person);
        Parcel p = parcels[parcel];
        return p.lives ? p.shares[person] : NO_SHARE;
    }

    public int mortgage(int parcel, int rank, int what) throws IllegalArgumentException {
        requireParcel(parcel);
        Parcel p = parcels[parcel];
        if (!p.lives || rank < 1 || rank > p.mortgages) {
            return NONE;
        }
        if (what == 0) {
            return p.creditors[rank - 1];
        }
        return what == 1 ? p.amounts[rank - 1] : NONE;
    }

    public int cautions(int parcel) throws IllegalArgumentException {
        requireParcel(parcel);
        Parcel p = parcels[parcel];
        return p.lives ? p.cautions : 0;
    }

    public int origin(int parcel, int i) throws IllegalArgumentException {
        requireParcel(parcel);
        // A parcel that has ended was still made of others, so life is not asked for here.
        Parcel p = parcels[parcel];
        if (i == 0) {
            return p.firstOrigin;
        }
        return i == 1 ? p.secondOrigin : NONE;
    }

    public int holding(int person, int i) throws IllegalArgumentException {
        requirePerson(person);
        int before = 0;
        for (int p = 0; p < PARCELS; p++) {
            if (parcels[p].lives && parcels[p].shares[person] != NO_SHARE) {
                if (before == i) {
                    return p;
                }
                before++;
            }
        }
        return NONE;
    }

    public long owed(int person) throws IllegalArgumentException {
        requirePerson(person);
        long sum = 0;
        for (int p = 0; p < PARCELS; p++) {
            if (parcels[p].lives) {
                sum += parcels[p].owedTo(person);
            }
        }
        return sum;
    }

    public int state(int deed) throws IndexOutOfBoundsException {
        if (deed < 0 || deed >= filed) {
            throw new IndexOutOfBoundsException("there is no such deed");
        }
        return byNumber[deed].outcome;
    }

    private void requireFactDay(int fact) {
        if (fact < 0 || fact > today) {
            throw new IllegalArgumentException("a fact day is 0 .. today");
        }
    }

    private static void requirePerson(int person) {
        if (person < 0 || person >= PERSONS) {
            throw new IllegalArgumentException("a person is 0 .. 7");
        }
    }

    private static void requireParcel(int parcel) {
        if (parcel < 0 || parcel >= PARCELS) {
            throw new IllegalArgumentException("a parcel is 0 .. 79");
        }
    }

    private static void requireUnits(int units) {
        if (units < 1 || units > MOST_UNITS) {
            throw new IllegalArgumentException("an area or amount is 1 .. 1000000000");
        }
    }

    private static void requireRank(int rank) {
        if (rank < 1 || rank > MOST_MORTGAGES) {
            throw new IllegalArgumentException("a rank is 1 .. 4");
        }
    }

    private static void requireDifferent(int one, int other) {
        if (one == other) {
            throw new IllegalArgumentException("the two are the same");
        }
    }

    private static void requireFraction(long fraction) {
        long parts = denominator(fraction);
        if (parts < 1 || parts > MOST_PARTS) {
            throw new IllegalArgumentException("a denominator is 1 .. 1000000");
        }
        if (numerator(fraction) < 1 || numerator(fraction) > parts) {
            throw new IllegalArgumentException("a numerator is 1 .. the denominator");
        }
    }

    private void requireFreeNumber() {
        if (filed >= MOST_DEEDS) {
            throw new IllegalStateException("40 deeds were filed");
        }
    }

    /** The caller has seen to it that there is a free number. */
    private int file(int fact, Deed deed) {
        int number = filed;
        deed.number = number;
        deed.recordDay = today;
        deed.factDay = fact;
        byNumber[number] = deed;
        int place = number;
        // Only deeds of later fact days give way: those of one day stay in the order of numbers.
        while (place > 0 && byFactDay[place - 1].factDay > fact) {
            byFactDay[place] = byFactDay[place - 1];
            place--;
        }
        byFactDay[place] = deed;
        filed++;
        lookAt(today, today);
        return number;
    }

    private void lookAt(int rec, int fact) {
        for (int p = 0; p < PARCELS; p++) {
            parcels[p].unmake();
        }
        for (int d = 0; d < filed; d++) {
            Deed deed = byFactDay[d];
            if (deed.recordDay > rec || deed.factDay > fact) {
                deed.outcome = NONE;
            } else {
                deed.outcome = deed.hindrance(parcels);
                if (deed.outcome == DONE) {
                    deed.carryOut(parcels);
                }
            }
        }
    }

    private static long numerator(long fraction) {
        return fraction >> 32;
    }

    private static long denominator(long fraction) {
        return fraction & LOWER_BITS;
    }

    /** The denominator to reckon with: no share is 0 / 1 there. */
    private static long parts(long share) {
        return Math.max(1, denominator(share));
    }

    private static boolean isLess(long a, long b) {
        return numerator(a) * parts(b) < numerator(b) * parts(a);
    }

    private static long plus(long a, long b) {
        return lowest(numerator(a) * parts(b) + numerator(b) * parts(a), parts(a) * parts(b));
    }

    /** The caller has seen to it that a is not less than b. */
    private static long minus(long a, long b) {
        return lowest(numerator(a) * parts(b) - numerator(b) * parts(a), parts(a) * parts(b));
    }

    /** The share in lowest terms; TOO_FINE when its denominator is above what a share may have. */
    private static long lowest(long numerator, long denominator) {
        if (numerator == 0) {
            return NO_SHARE;
        }
        long common = commonDivisor(numerator, denominator);
        if (denominator / common > MOST_PARTS) {
            return TOO_FINE;
        }
        return (numerator / common) << 32 | (denominator / common);
    }

    private static long commonDivisor(long a, long b) {
        long greater = a;
        long less = b;
        for (int step = 0; step < MOST_STEPS && less != 0; step++) {
            long rest = greater % less;
            greater = less;
            less = rest;
        }
        // Never 0, so that every caller may divide by it.
        return greater > 0 ? greater : 1;
    }

    /** What a number of a parcel stands for in the view; the same object serves every view. */
    private static final class Parcel {
        boolean lives;
        long area;
        final long[] shares = new long[PERSONS];
        int mortgages;
        final int[] creditors = new int[MOST_MORTGAGES];
        final int[] amounts = new int[MOST_MORTGAGES];
        int cautions;
        int firstOrigin = NONE;
        int secondOrigin = NONE;

        void unmake() {
            lives = false;
            firstOrigin = NONE;
            secondOrigin = NONE;
        }

        void makeFor(int owner, long newArea) {
            lives = true;
            area = newArea;
            Arrays.fill(shares, NO_SHARE);
            shares[owner] = WHOLE;
            mortgages = 0;
            cautions = 0;
        }

        void makeFrom(Parcel old, long newArea) {
            lives = true;
            area = newArea;
            System.arraycopy(old.shares, 0, shares, 0, PERSONS);
            mortgages = old.mortgages;
            System.arraycopy(old.creditors, 0, creditors, 0, MOST_MORTGAGES);
            System.arraycopy(old.amounts, 0, amounts, 0, MOST_MORTGAGES);
            cautions = 0;
        }

        int closedness() {
            if (!lives) {
                return NOT_ALIVE;
            }
            return cautions != 0 ? HAS_CAUTION : DONE;
        }

        boolean hasCautionOf(int person) {
            return (cautions >> person & 1) != 0;
        }

        void addMortgage(int rank, int creditor, int amount) {
            int behind = mortgages - rank + 1;
            System.arraycopy(creditors, rank - 1, creditors, rank, behind);
            System.arraycopy(amounts, rank - 1, amounts, rank, behind);
            creditors[rank - 1] = creditor;
            amounts[rank - 1] = amount;
            mortgages++;
        }

        void dropMortgage(int rank) {
            int behind = mortgages - rank;
            System.arraycopy(creditors, rank, creditors, rank - 1, behind);
            System.arraycopy(amounts, rank, amounts, rank - 1, behind);
            mortgages--;
        }

        /** The creditors of the ranks from first to last, as bits. */
        int creditorsOf(int first, int last) {
            int bits = 0;
            for (int rank = first; rank <= last; rank++) {
                bits |= 1 << creditors[rank - 1];
            }
            return bits;
        }

        long owedTo(int person) {
            long sum = 0;
            for (int m = 0; m < mortgages; m++) {
                if (creditors[m] == person) {
                    sum += amounts[m];
                }
            }
            return sum;
        }

        boolean hasSharesOf(Parcel other) {
            for (int person = 0; person < PERSONS; person++) {
                if (shares[person] != other.shares[person]) {
                    return false;
                }
            }
            return true;
        }

        boolean hasMortgagesOf(Parcel other) {
            if (mortgages != other.mortgages) {
                return false;
            }
            for (int m = 0; m < mortgages; m++) {
                if (creditors[m] != other.creditors[m] || amounts[m] != other.amounts[m]) {
                    return false;
                }
            }
            return true;
        }
    }

    private abstract static class Deed {
        int number;
        int recordDay;
        int factDay;
        int outcome = NONE;

        /** The reason that makes the deed void on this land, or DONE. */
        abstract int hindrance(Parcel[] land);

        /** Changes the land; asked for only where nothing hinders the deed. */
        abstract void carryOut(Parcel[] land);
    }

    private static final class Found extends Deed {
        private final int area;
        private final int owner;

        Found(int area, int owner) {
            this.area = area;
            this.owner = owner;
        }

        int hindrance(Parcel[] land) {
            return DONE;
        }

        void carryOut(Parcel[] land) {
            land[2 * number].makeFor(owner, area);
        }
    }

    private static final class Sell extends Deed {
        private final int parcel;
        private final int from;
        private final int to;
        private final long fraction;

        Sell(int parcel, int from, int to, long fraction) {
            this.parcel = parcel;
            this.from = from;
            this.to = to;
            this.fraction = fraction;
        }

        int hindrance(Parcel[] land) {
            Parcel p = land[parcel];
            int closed = p.closedness();
            if (closed != DONE) {
                return closed;
            }
            if (isLess(p.shares[from], fraction)) {
                return SHARE_TOO_SMALL;
            }
            boolean tooFine = minus(p.shares[from], fraction) == TOO_FINE
                    || plus(p.shares[to], fraction) == TOO_FINE;
            return tooFine ? SHARE_TOO_FINE : DONE;
        }

        void carryOut(Parcel[] land) {
            long[] shares = land[parcel].shares;
            shares[from] = minus(shares[from], fraction);
            shares[to] = plus(shares[to], fraction);
        }
    }

    private static final class Pledge extends Deed {
        private final int parcel;
        private final int creditor;
        private final int amount;

        Pledge(int parcel, int creditor, int amount) {
            this.parcel = parcel;
            this.creditor = creditor;
            this.amount = amount;
        }

        int hindrance(Parcel[] land) {
            Parcel p = land[parcel];
            int closed = p.closedness();
            if (closed != DONE) {
                return closed;
            }
            return p.mortgages >= MOST_MORTGAGES ? MORTGAGES_FULL : DONE;
        }

        void carryOut(Parcel[] land) {
            Parcel p = land[parcel];
            p.addMortgage(p.mortgages + 1, creditor, amount);
        }
    }

    private static final class Rerank extends Deed {
        private final int parcel;
        private final int from;
        private final int to;
        private final int consents;

        Rerank(int parcel, int from, int to, int consents) {
            this.parcel = parcel;
            this.from = from;
            this.to = to;
            this.consents = consents;
        }

        int hindrance(Parcel[] land) {
            Parcel p = land[parcel];
            int closed = p.closedness();
            if (closed != DONE) {
                return closed;
            }
            if (Math.max(from, to) > p.mortgages) {
                return NO_SUCH_RANK;
            }
            return (consentsNeeded(p) & ~consents) != 0 ? CONSENT_LACKING : DONE;
        }

        private int consentsNeeded(Parcel p) {
            int moved = p.creditorsOf(from, from);
            if (from < to) {
                return moved & ~p.creditorsOf(from + 1, to);
            }
            return p.creditorsOf(to, from - 1) & ~moved;
        }

        void carryOut(Parcel[] land) {
            Parcel p = land[parcel];
            int creditor = p.creditors[from - 1];
            int amount = p.amounts[from - 1];
            p.dropMortgage(from);
            p.addMortgage(to, creditor, amount);
        }
    }

    private static final class Release extends Deed {
        private final int parcel;
        private final int rank;

        Release(int parcel, int rank) {
            this.parcel = parcel;
            this.rank = rank;
        }

        int hindrance(Parcel[] land) {
            Parcel p = land[parcel];
            if (!p.lives) {
                return NOT_ALIVE;
            }
            return rank > p.mortgages ? NO_SUCH_RANK : DONE;
        }

        void carryOut(Parcel[] land) {
            land[parcel].dropMortgage(rank);
        }
    }

    private static final class Caution extends Deed {
        private final int parcel;
        private final int person;

        Caution(int parcel, int person) {
            this.parcel = parcel;
            this.person = person;
        }

        int hindrance(Parcel[] land) {
            Parcel p = land[parcel];
            if (!p.lives) {
                return NOT_ALIVE;
            }
            return p.hasCautionOf(person) ? CAUTION_AMISS : DONE;
        }

        void carryOut(Parcel[] land) {
            land[parcel].cautions |= 1 << person;
        }
    }

    private static final class Lift extends Deed {
        private final int parcel;
        private final int person;

        Lift(int parcel, int person) {
            this.parcel = parcel;
            this.person = person;
        }

        int hindrance(Parcel[] land) {
            Parcel p = land[parcel];
            if (!p.lives) {
                return NOT_ALIVE;
            }
            return p.hasCautionOf(person) ? DONE : CAUTION_AMISS;
        }

        void carryOut(Parcel[] land) {
            land[parcel].cautions &= ~(1 << person);
        }
    }

    private static final class Split extends Deed {
        private final int parcel;
        private final int area;

        Split(int parcel, int area) {
            this.parcel = parcel;
            this.area = area;
        }

        int hindrance(Parcel[] land) {
            Parcel p = land[parcel];
            int closed = p.closedness();
            if (closed != DONE) {
                return closed;
            }
            return area >= p.area ? PART_TOO_GREAT : DONE;
        }

        void carryOut(Parcel[] land) {
            Parcel whole = land[parcel];
            Parcel part = land[2 * number];
            Parcel rest = land[2 * number + 1];
            whole.lives = false;
            part.makeFrom(whole, area);
            part.firstOrigin = parcel;
            rest.makeFrom(whole, whole.area - area);
            rest.firstOrigin = parcel;
        }
    }

    private static final class Merge extends Deed {
        private final int first;
        private final int second;

        Merge(int first, int second) {
            this.first = first;
            this.second = second;
        }

        int hindrance(Parcel[] land) {
            Parcel a = land[first];
            Parcel b = land[second];
            if (!a.lives || !b.lives) {
                return NOT_ALIVE;
            }
            if (a.cautions != 0 || b.cautions != 0) {
                return HAS_CAUTION;
            }
            if (!a.hasSharesOf(b)) {
                return SHARES_DIFFER;
            }
            return a.hasMortgagesOf(b) ? DONE : MORTGAGES_DIFFER;
        }

        void carryOut(Parcel[] land) {
            Parcel a = land[first];
            Parcel b = land[second];
            Parcel both = land[2 * number];
            a.lives = false;
            b.lives = false;
            both.makeFrom(a, a.area + b.area);
            both.firstOrigin = first;
            both.secondOrigin = second;
        }
    }
}
