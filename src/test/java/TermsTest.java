import java.math.BigInteger;

/** The limits that the document's terms name: nothing there yet, just full, and one more. */
public final class TermsTest extends Checks {
    private static final int UNITS = 1000000000;

    private static void today() {
        LandRegister r = new LandRegister();
        refused("view(1, 0) on day 0", ARGUMENT, () -> r.view(1, 0));
        for (int day = 1; day <= 60; day++) {
            int next = day + 1;
            due("day()", r.day(), day);
            due("view of that day", r.view(day, day), 0);
            refused("view of the next day", ARGUMENT, () -> r.view(next, 0));
            refused("a deed of the next day", ARGUMENT, () -> r.found(next, 1, 0));
        }
        refused("day() on day 60", STATE, () -> r.day());
        refused("day() once more", STATE, () -> r.day());
        due("a deed of day 60", r.found(60, 1, 0), 0);
        due("a deed of day 0", r.found(0, 1, 0), 1);
        refused("a deed of day 61", ARGUMENT, () -> r.found(61, 1, 0));
        due("its view", r.view(60, 60), 2);
        due("the day before it", r.view(60, 59), 1);
    }

    private static void fortyDeeds() {
        LandRegister r = new LandRegister();
        for (int n = 0; n < 39; n++) {
            due("a void deed has a number too", r.pledge(0, 79, 0, 1), n);
            refused("a refused one has none", ARGUMENT, () -> r.found(1, 1, 0));
            int next = n + 1;
            refused("there is no such deed yet", INDEX, () -> r.state(next));
            due("it is void", r.state(n), 1);
        }
        refused("state(39), of 39 deeds", INDEX, () -> r.state(39));
        due("the fortieth", r.found(0, 1, 0), 39);
        due("it is done", r.state(39), DONE);
        refused("the forty-first", STATE, () -> r.found(0, 1, 0));
        refused("on the next day too", STATE, () -> r.found(r.day(), 1, 0));
        refused("state(40), of 40 deeds", INDEX, () -> r.state(40));
        livingAre(r, 78);
    }

    private static void numbersOfParcels() {
        LandRegister first = withParcel();
        due("deed 0 makes parcel 0", first.area(0), 100);
        due("and not 1", first.area(1), 0);
        LandRegister r = new LandRegister();
        for (int n = 0; n < 38; n++) {
            r.found(0, 2, 0);
        }
        due("deed 38 merges", r.state(r.merge(0, 0, 74)), DONE);
        due("into 76", r.area(76), 4);
        due("and not into 77", r.area(77), 0);
        due("deed 39 splits", r.state(r.split(0, 76, 3)), DONE);
        due("into 78", r.area(78), 3);
        due("and 79", r.area(79), 1);
        due("of 76", r.origin(78, 0), 76);
        due("of 76", r.origin(79, 0), 76);
        due("both are counted", r.view(0, 0), 38);
        due("78 is the last but one", r.parcel(36), 78);
        due("79 is the last", r.parcel(37), 79);
        due("and there is no other", r.parcel(38), NONE);
    }

    private static void noParcelYet() {
        LandRegister r = new LandRegister();
        due("none lives", r.view(0, 60), 0);
        livingAre(r);
        due("sell", r.state(r.sell(0, 0, 0, 1, part(1, 1))), 1);
        due("pledge", r.state(r.pledge(0, 2, 0, 1)), 1);
        due("rerank", r.state(r.rerank(0, 4, 1, 2, -1)), 1);
        due("release", r.state(r.release(0, 6, 1)), 1);
        due("caution", r.state(r.caution(0, 8, 0)), 1);
        due("lift", r.state(r.lift(0, 10, 0)), 1);
        due("split of what it would make", r.state(r.split(0, 12, 1)), 1);
        due("merge of what it would make", r.state(r.merge(0, 14, 15)), 1);
        due("none lives", r.view(0, 0), 0);
        due("none was made of another", r.origin(12, 0), NONE);
        due("none was made of another", r.origin(14, 0), NONE);
        due("the last number", r.state(r.caution(0, 79, 7)), 1);
        due("no caution", r.cautions(79), 0);
    }

    private static void lifeEnds() {
        LandRegister r = withMortgages(1);
        r.sell(0, 0, 0, 7, part(1, 2));
        r.split(0, 0, 40);
        due("area", r.area(0), 0);
        due("share", r.share(0, 0), 0);
        due("creditor", r.mortgage(0, 1, 0), NONE);
        due("amount", r.mortgage(0, 1, 1), NONE);
        due("cautions", r.cautions(0), 0);
        due("holding", r.holding(0, 0), 6);
        due("holding", r.holding(7, 1), 7);
        due("holding", r.holding(7, 2), NONE);
        due("owed", r.owed(1), 20);
        due("sell", r.state(r.sell(0, 0, 0, 1, part(1, 4))), 1);
        due("pledge", r.state(r.pledge(0, 0, 0, 1)), 1);
        due("release", r.state(r.release(0, 0, 1)), 1);
        due("caution", r.state(r.caution(0, 0, 0)), 1);
        due("split", r.state(r.split(0, 0, 1)), 1);
        due("merge", r.state(r.merge(0, 6, 7)), DONE);
        due("a part has ended", r.area(6) + r.area(7), 0);
        due("it was still made of the whole", r.origin(6, 0), 0);
        due("a parcel does not come back", r.area(0), 0);
        livingAre(r, 18);
    }

    private static void livingAtMost() {
        LandRegister founded = full();
        due("40 live", founded.view(0, 0), 40);
        due("the first", founded.parcel(0), 0);
        due("the last", founded.parcel(39), 78);
        due("no other", founded.parcel(40), NONE);
        due("all are held", founded.holding(0, 39), 78);
        due("no other", founded.holding(0, 40), NONE);
        LandRegister split = new LandRegister();
        split.found(0, UNITS, 3);
        for (int n = 1; n < 40; n++) {
            due("split no. " + n, split.state(split.split(0, split.parcel(n - 1), 1)), DONE);
        }
        due("40 live", split.view(0, 0), 40);
        due("the last", split.parcel(39), 79);
        due("no other", split.parcel(40), NONE);
        due("the rest", split.area(79), UNITS - 39);
        due("all are held", split.holding(3, 39), 79);
        due("no other", split.holding(3, 40), NONE);
    }

    /** The sum of the eight shares, as a fraction in lowest terms. */
    private static String sumOfShares(LandRegister r, int parcel) {
        BigInteger num = BigInteger.ZERO;
        BigInteger den = BigInteger.ONE;
        for (int person = 0; person < 8; person++) {
            long share = r.share(parcel, person);
            if (share != 0) {
                BigInteger n = BigInteger.valueOf(share >>> 32);
                BigInteger d = BigInteger.valueOf(share & 0xFFFFFFFFL);
                num = num.multiply(d).add(n.multiply(den));
                den = den.multiply(d);
            }
        }
        BigInteger common = num.gcd(den);
        return num.divide(common) + "/" + den.divide(common);
    }

    private static void sharesComeToOne() {
        LandRegister r = withParcel();
        due("at first", sumOfShares(r, 0), "1/1");
        int[] reasons = new int[5];
        for (int n = 1; n < 40; n++) {
            int from = n * 5 % 8;
            int to = (from + 1 + n % 6) % 8;
            int den = n % 4 == 0 ? 999983 : n % 7 + 2;
            reasons[r.state(r.sell(0, 0, n < 9 ? 0 : from, n < 9 ? 7 - n % 7 : to, part(1, den)))]++;
            due("after sale no. " + n, sumOfShares(r, 0), "1/1");
        }
        due("some sales are done", reasons[0] > 5, true);
        due("some sell too much", reasons[3] > 0, true);
        due("some are too fine", reasons[4] > 0, true);
    }

    private static void sharesAboveZero() {
        LandRegister r = withParcel();
        r.sell(0, 0, 0, 7, part(1, 1));
        due("nothing is left", r.share(0, 0), 0);
        due("nothing is held", r.holding(0, 0), NONE);
        due("the whole", r.share(0, 7), part(1, 1));
        due("nothing to sell", r.state(r.sell(0, 0, 0, 7, part(1, 1000000))), 3);
        due("it comes back", r.state(r.sell(0, 0, 7, 0, part(1, 1000000))), DONE);
        due("the least share", r.share(0, 0), part(1, 1000000));
        due("it is held", r.holding(0, 0), 0);
        due("the greatest but the whole", r.share(0, 7), part(999999, 1000000));
        due("back again", r.state(r.sell(0, 0, 0, 7, part(1, 1000000))), DONE);
        due("the whole, in lowest terms", r.share(0, 7), part(1, 1));
        due("nothing is held", r.holding(0, 0), NONE);
    }

    private static void fourMortgages() {
        LandRegister r = withParcel();
        amountsAre(r, 0);
        due("none to go", r.state(r.release(0, 0, 1)), 6);
        due("1", r.state(r.pledge(0, 0, 0, 1)), DONE);
        due("2", r.state(r.pledge(0, 0, 0, 1)), DONE);
        due("3", r.state(r.pledge(0, 0, 7, UNITS)), DONE);
        due("4", r.state(r.pledge(0, 0, 1, 4)), DONE);
        due("5", r.state(r.pledge(0, 0, 2, 5)), 5);
        due("again", r.state(r.pledge(0, 0, 2, 5)), 5);
        amountsAre(r, 0, 1, 1, UNITS, 4);
        creditorsAre(r, 0, 0, 0, 7, 1);
        r.release(0, 0, 4);
        due("one has gone", r.state(r.pledge(0, 0, 2, 5)), DONE);
        due("now it is full again", r.state(r.pledge(0, 0, 2, 5)), 5);
        amountsAre(r, 0, 1, 1, UNITS, 5);
        r.split(0, 0, 50);
        due("a part has four too", r.state(r.pledge(0, 22, 0, 1)), 5);
        due("and the rest", r.state(r.pledge(0, 23, 0, 1)), 5);
    }

    private static void releaseOfEachRank() {
        int[][] left = {{20, 30, 40}, {10, 30, 40}, {10, 20, 40}, {10, 20, 30}};
        int[][] creditors = {{6, 7, 0}, {5, 7, 0}, {5, 6, 0}, {5, 6, 7}};
        for (int rank = 1; rank <= 4; rank++) {
            LandRegister r = withMortgages(5, 6, 7, 0);
            due("release", r.state(r.release(0, 0, rank)), DONE);
            amountsAre(r, 0, left[rank - 1]);
            creditorsAre(r, 0, creditors[rank - 1]);
            due("three are left", r.state(r.release(0, 0, 4)), 6);
            due("the next one is the last", r.state(r.pledge(0, 0, 3, 9)), DONE);
            due("its rank", r.mortgage(0, 4, 1), 9);
        }
    }

    private static void cautionsOfAll() {
        LandRegister r = withParcel();
        due("none", r.cautions(0), 0);
        for (int person = 0; person < 8; person++) {
            due("none to be lifted", r.state(r.lift(0, 0, person)), 8);
            due("one of each", r.state(r.caution(0, 0, person)), DONE);
            due("at most one", r.state(r.caution(0, 0, person)), 8);
        }
        due("all have one", r.cautions(0), 255);
        for (int person = 7; person >= 0; person--) {
            due("it goes", r.state(r.lift(0, 0, person)), DONE);
            due("those below it stay", r.cautions(0), (1 << person) - 1);
        }
        due("no caution hinders any more", r.state(r.pledge(0, 0, 0, 1)), DONE);
    }

    private static void greatAreas() {
        LandRegister r = new LandRegister();
        for (int n = 0; n < 20; n++) {
            r.found(0, UNITS, 0);
        }
        int whole = 0;
        for (int n = 1; n < 20; n++) {
            int deed = r.merge(0, whole, 2 * n);
            due("merge no. " + n, r.state(deed), DONE);
            whole = 2 * deed;
            due("area", r.area(whole), (n + 1L) * UNITS);
        }
        due("split of it", r.state(r.split(0, whole, UNITS)), DONE);
        due("the part", r.area(78), UNITS);
        due("the rest", r.area(79), 19L * UNITS);
        livingAre(r, 78, 79);
    }

    private static void greatDebts() {
        LandRegister r = withParcel();
        for (int rank = 1; rank <= 4; rank++) {
            r.pledge(0, 0, 7, UNITS);
            due("owed", r.owed(7), (long) rank * UNITS);
        }
        for (int n = 1; n <= 35; n++) {
            r.split(0, r.parcel(n - 1), 1);
            due("owed on " + (n + 1) + " parcels", r.owed(7), (n + 1) * 4L * UNITS);
        }
        due("40 deeds", r.state(39), DONE);
        due("to nobody else", r.owed(0), 0);
    }

    /** 512 calls, among them 60 days, 40 deeds and many looks: the last answers are as due. */
    private static void longRun() {
        LandRegister r = new LandRegister();
        int calls = 0;
        for (int d = 0; d < 40; d++) {
            r.found(d / 2, d + 1, d % 8);
            r.day();
            calls += 2;
        }
        for (int d = 40; d < 60; d++) {
            r.day();
            calls++;
        }
        while (calls + 2 <= MOST_CALLS - 4) {
            int rec = calls % 60;
            int founded = Math.min(40, rec + 1);
            due("view(" + rec + ", 60)", r.view(rec, 60), founded);
            due("the last that lives", r.parcel(founded - 1), 2 * founded - 2);
            calls += 2;
        }
        due("view(60, 60)", r.view(60, 60), 40);
        refused("no next day", STATE, () -> r.day());
        refused("no next deed", STATE, () -> r.found(60, 1, 0));
        due("the last deed", r.state(39), DONE);
    }

    public static void main(String[] args) {
        check("today is a day, 0 at first, 60 at last", TermsTest::today);
        check("deeds have numbers 0, 1, .., at most 40", TermsTest::fortyDeeds);
        check("what deed n makes has the numbers 2n and 2n + 1", TermsTest::numbersOfParcels);
        check("a parcel lives from when it is made", TermsTest::noParcelYet);
        check("a parcel lives until it ends", TermsTest::lifeEnds);
        check("parcels that live, at most", TermsTest::livingAtMost);
        check("shares come to 1 together", TermsTest::sharesComeToOne);
        check("shares are fractions above 0", TermsTest::sharesAboveZero);
        check("at most 4 mortgages", TermsTest::fourMortgages);
        check("those behind it move up", TermsTest::releaseOfEachRank);
        check("at most one caution of each", TermsTest::cautionsOfAll);
        check("their areas together", TermsTest::greatAreas);
        check("the sum of the amounts", TermsTest::greatDebts);
        check("at most 512 calls", TermsTest::longRun);
        end("all limits are as due");
    }
}
