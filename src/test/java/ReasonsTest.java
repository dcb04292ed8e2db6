import java.util.Arrays;

/** Each rule just before and just after it hinders, and which one is told when several do. */
public final class ReasonsTest extends Checks {
    private static final int UNITS = 1000000000;

    /** Of two parcels one does not live: wherever it stands, that comes before all else. */
    private static void life() {
        LandRegister r = withParcel();
        r.found(0, 7, 5);
        r.pledge(0, 0, 1, 1);
        due("other shares and mortgages", r.state(r.merge(0, 0, 2)), 10);
        due("the second does not live", r.state(r.merge(0, 0, 1)), 1);
        due("the first does not live", r.state(r.merge(0, 79, 0)), 1);
        due("neither lives", r.state(r.merge(0, 78, 79)), 1);
        r.caution(0, 0, 0);
        due("before the caution of the first", r.state(r.merge(0, 0, 79)), 1);
        due("before the caution of the second", r.state(r.merge(0, 79, 0)), 1);
        due("the same without it", r.state(r.merge(0, 0, 2)), 2);
    }

    /** Every person's caution hinders five kinds of deeds, and no other kind. */
    private static void caution() {
        for (int person = 0; person < 8; person++) {
            LandRegister r = withMortgages(1, 2);
            r.found(0, 100, 0);
            r.caution(0, 0, person);
            due("sell", r.state(r.sell(0, 0, 0, 1, part(1, 2))), 2);
            due("pledge", r.state(r.pledge(0, 0, 0, 1)), 2);
            due("rerank", r.state(r.rerank(0, 0, 1, 2, -1)), 2);
            due("split", r.state(r.split(0, 0, 1)), 2);
            due("merge, the first", r.state(r.merge(0, 0, 6)), 2);
            due("merge, the second", r.state(r.merge(0, 6, 0)), 2);
            due("found", r.state(r.found(0, 1, person)), DONE);
            due("release", r.state(r.release(0, 0, 1)), DONE);
            due("caution", r.state(r.caution(0, 0, 7 - person)), DONE);
            due("lift", r.state(r.lift(0, 0, 7 - person)), DONE);
            due("of another parcel", r.state(r.pledge(0, 6, 0, 1)), DONE);
            due("the last one lifted", r.state(r.lift(0, 0, person)), DONE);
            due("sell again", r.state(r.sell(0, 0, 0, 1, part(1, 2))), DONE);
        }
    }

    /** Whatever else hinders a deed, the caution is told. */
    private static void cautionFirst() {
        LandRegister r = withMortgages(1, 2, 3, 4);
        r.sell(0, 0, 0, 1, part(1, 101));
        r.found(0, 1, 7);
        due("too much sold", r.state(r.sell(0, 0, 2, 0, part(1, 2))), 3);
        due("too fine", r.state(r.sell(0, 0, 0, 2, part(1, 9901))), 4);
        due("full", r.state(r.pledge(0, 0, 0, 1)), 5);
        due("no consent", r.state(r.rerank(0, 0, 1, 2, 0)), 7);
        due("too great", r.state(r.split(0, 0, 100)), 9);
        due("other shares", r.state(r.merge(0, 0, 12)), 10);
        r.caution(0, 0, 6);
        due("2 before 3", r.state(r.sell(0, 0, 2, 0, part(1, 2))), 2);
        due("2 before 4", r.state(r.sell(0, 0, 0, 2, part(1, 9901))), 2);
        due("2 before 5", r.state(r.pledge(0, 0, 0, 1)), 2);
        due("2 before 7", r.state(r.rerank(0, 0, 1, 2, 0)), 2);
        due("2 before 9", r.state(r.split(0, 0, 100)), 2);
        due("2 before 10", r.state(r.merge(0, 12, 0)), 2);
        LandRegister s = withParcel();
        s.found(0, 1, 0);
        s.pledge(0, 0, 0, 1);
        due("other mortgages", s.state(s.merge(0, 0, 2)), 11);
        due("no such rank", s.state(s.rerank(0, 0, 1, 2, -1)), 6);
        s.caution(0, 0, 6);
        due("2 before 11", s.state(s.merge(0, 0, 2)), 2);
        due("2 before 6", s.state(s.rerank(0, 0, 1, 2, -1)), 2);
    }

    /** Person 1 has a third of parcel 0. */
    private static LandRegister withThird() {
        LandRegister r = withParcel();
        r.sell(0, 0, 0, 1, part(1, 3));
        return r;
    }

    private static void shareOfSeller() {
        LandRegister equal = withThird();
        due("all of it", equal.state(equal.sell(0, 0, 1, 2, part(333333, 999999))), DONE);
        due("nothing is left", equal.share(0, 1), 0);
        due("lowest terms", equal.share(0, 2), part(1, 3));
        LandRegister more = withThird();
        due("a little more", more.state(more.sell(0, 0, 1, 2, part(333334, 999999))), 3);
        due("a very little more", more.state(more.sell(0, 0, 1, 2, part(333333, 999998))), 3);
        due("and too fine", more.state(more.sell(0, 0, 1, 2, part(333334, 1000000))), 3);
        due("the whole", more.state(more.sell(0, 0, 0, 1, part(1, 1))), 3);
        due("without a share", more.state(more.sell(0, 0, 7, 1, part(1, 1000000))), 3);
        due("nothing has changed", more.share(0, 1), part(1, 3));
        LandRegister less = withThird();
        due("a little less", less.state(less.sell(0, 0, 1, 2, part(333332, 999999))), DONE);
        due("what is left", less.share(0, 1), part(1, 999999));
        due("what came", less.share(0, 2), part(333332, 999999));
        LandRegister whole = withParcel();
        due("the whole", whole.state(whole.sell(0, 0, 0, 7, part(1000000, 1000000))), DONE);
        due("it came", whole.share(0, 7), part(1, 1));
    }

    /** The rest alone has the denominator in question: 64 * 15625 = 1000000, 101 * 9901 = 1000001. */
    private static void fineRest() {
        LandRegister just = withParcel();
        just.sell(0, 0, 0, 1, part(1, 64));
        due("1000000", just.state(just.sell(0, 0, 0, 2, part(1, 15625))), DONE);
        due("the rest", just.share(0, 0), part(1000000 - 15625 - 64, 1000000));
        LandRegister above = withParcel();
        above.sell(0, 0, 0, 1, part(1, 101));
        due("1000001", above.state(above.sell(0, 0, 0, 2, part(1, 9901))), 4);
        due("nothing has changed", above.share(0, 0), part(100, 101));
        due("nothing came", above.share(0, 2), 0);
        due("all of it is not too fine", above.state(above.sell(0, 0, 1, 2, part(9801, 989901))), DONE);
    }

    /** Person 1 has 1 / a; person 2 sells all it has, 1 / b, so that no rest can be too fine. */
    private static LandRegister withTwo(int a, int b) {
        LandRegister r = withParcel();
        r.sell(0, 0, 0, 3, part(1, 2));
        due("1 / a", r.state(r.sell(0, 0, 0, 1, part(1, a))), DONE);
        due("1 / b", r.state(r.sell(0, 0, 3, 2, part(1, b))), DONE);
        return r;
    }

    private static void fineGain() {
        LandRegister just = withTwo(64, 15625);
        due("1000000", just.state(just.sell(0, 0, 2, 1, part(1, 15625))), DONE);
        due("the gain", just.share(0, 1), part(15625 + 64, 1000000));
        LandRegister above = withTwo(101, 9901);
        due("1000001", above.state(above.sell(0, 0, 2, 1, part(1, 9901))), 4);
        due("nothing has changed", above.share(0, 1), part(1, 101));
        due("nothing has gone", above.share(0, 2), part(1, 9901));
        due("to one without a share", above.state(above.sell(0, 0, 2, 4, part(1, 9901))), DONE);
        LandRegister greatest = withParcel();
        due("999999", greatest.state(greatest.sell(0, 0, 0, 1, part(1, 999999))), DONE);
        due("1000000", greatest.state(greatest.sell(0, 0, 0, 2, part(1, 1000000))), 4);
        due("999999 again", greatest.state(greatest.sell(0, 0, 0, 1, part(999997, 999999))), DONE);
        due("lowest terms count", greatest.share(0, 1), part(999998, 999999));
        due("the rest", greatest.share(0, 0), part(1, 999999));
        due("both together", greatest.state(greatest.sell(0, 0, 0, 1, part(1, 999999))), DONE);
        due("the whole", greatest.share(0, 1), part(1, 1));
    }

    private static void shareBeforeFineness() {
        LandRegister r = withThird();
        due("too fine alone", r.state(r.sell(0, 0, 1, 2, part(333333, 1000000))), 4);
        due("3 before 4", r.state(r.sell(0, 0, 1, 2, part(333334, 1000000))), 3);
        due("3 before 4, without a share", r.state(r.sell(0, 0, 2, 1, part(1, 1000000))), 3);
    }

    private static void ranks() {
        for (int there = 0; there <= 4; there++) {
            for (int rank = 1; rank <= 4; rank++) {
                LandRegister r = withMortgages(new int[there]);
                due("release " + rank + " of " + there, r.state(r.release(0, 0, rank)), rank <= there ? DONE : 6);
            }
            for (int from = 1; from <= 4; from++) {
                for (int to = 1; to <= 4; to++) {
                    if (from != to) {
                        rerankOf(there, from, to);
                    }
                }
            }
        }
    }

    private static void rerankOf(int there, int from, int to) {
        LandRegister r = withMortgages(Arrays.copyOf(new int[] {0, 1, 2, 3}, there));
        boolean both = from <= there && to <= there;
        String name = "from " + from + " to " + to + " of " + there;
        due(name + ", no consent: 6 before 7", r.state(r.rerank(0, 0, from, to, 0)), both ? 7 : 6);
        due(name + ", all consent", r.state(r.rerank(0, 0, from, to, -1)), both ? DONE : 6);
    }

    /** Which consents are needed, told by the ranks before and after: every case of 3 creditors. */
    private static void consents() {
        for (int from = 1; from <= 4; from++) {
            for (int to = 1; to <= 4; to++) {
                for (int kind = 0; from != to && kind < 81; kind++) {
                    int[] creditors = {kind % 3 * 3, kind / 3 % 3 * 3, kind / 9 % 3 * 3, kind / 27 * 3};
                    consentsOf(creditors, from, to);
                }
            }
        }
    }

    /** The rank that the mortgage of a rank has after another one, or itself, has moved. */
    private static int rankAfter(int rank, int from, int to) {
        if (rank == from) {
            return to;
        }
        if (from < rank && rank <= to) {
            return rank - 1;
        }
        return to <= rank && rank < from ? rank + 1 : rank;
    }

    private static void consentsOf(int[] creditors, int from, int to) {
        int loses = 0;
        int gains = 0;
        int[] amounts = new int[4];
        int[] after = new int[4];
        for (int rank = 1; rank <= 4; rank++) {
            int now = rankAfter(rank, from, to);
            amounts[now - 1] = 10 * rank;
            after[now - 1] = creditors[rank - 1];
            loses |= now > rank ? 1 << creditors[rank - 1] : 0;
            gains |= now < rank ? 1 << creditors[rank - 1] : 0;
        }
        int needed = loses & ~gains;
        String name = "from " + from + " to " + to + " of " + Arrays.toString(creditors);
        LandRegister r = withMortgages(creditors);
        for (int person = 0; person < 8; person++) {
            if ((needed >> person & 1) != 0) {
                due(name + " without " + person, r.state(r.rerank(0, 0, from, to, ~(1 << person))), 7);
            }
        }
        amountsAre(r, 0, 10, 20, 30, 40);
        due(name + " with those needed alone", r.state(r.rerank(0, 0, from, to, needed)), DONE);
        amountsAre(r, 0, amounts);
        creditorsAre(r, 0, after);
    }

    private static void consentBits() {
        for (int person = 0; person < 8; person++) {
            LandRegister r = withMortgages(person, (person + 1) % 8);
            due("all but the one", r.state(r.rerank(0, 0, 1, 2, ~(1 << person))), 7);
            due("none", r.state(r.rerank(0, 0, 1, 2, 0)), 7);
            due("no person", r.state(r.rerank(0, 0, 1, 2, Integer.MIN_VALUE)), 7);
            due("no person", r.state(r.rerank(0, 0, 1, 2, ~255)), 7);
            due("the one alone", r.state(r.rerank(0, 0, 1, 2, 1 << person)), DONE);
        }
    }

    private static void parts() {
        LandRegister r = withParcel();
        due("as great as the parcel", r.state(r.split(0, 0, 100)), 9);
        due("greater", r.state(r.split(0, 0, 101)), 9);
        due("the greatest", r.state(r.split(0, 0, UNITS)), 9);
        due("the parcel is still there", r.area(0), 100);
        due("just less", r.state(r.split(0, 0, 99)), DONE);
        due("part", r.area(8), 99);
        due("rest", r.area(9), 1);
        due("of 1 there is no part", r.state(r.split(0, 9, 1)), 9);
        due("the least", r.state(r.split(0, 8, 1)), DONE);
        due("part", r.area(12), 1);
        due("rest", r.area(13), 98);
        LandRegister great = new LandRegister();
        great.found(0, UNITS, 0);
        great.found(0, UNITS, 0);
        due("as great as the greatest", great.state(great.split(0, 0, UNITS)), 9);
        great.merge(0, 0, 2);
        due("less than two together", great.state(great.split(0, 6, UNITS)), DONE);
        due("rest", great.area(9), UNITS);
    }

    /** Two parcels, 0 and 2, both person 0's; the first has the mortgages given, the second others. */
    private static LandRegister pair(int[] first, int[] second) {
        LandRegister r = new LandRegister();
        r.found(0, 1, 0);
        r.found(0, 1, 0);
        for (int m : first) {
            r.pledge(0, 0, m / 10, m % 10 + 1);
        }
        for (int m : second) {
            r.pledge(0, 2, m / 10, m % 10 + 1);
        }
        return r;
    }

    private static void merged(String what, int[] first, int[] second, int due) {
        LandRegister r = pair(first, second);
        due(what, r.state(r.merge(0, 0, 2)), due);
        due(what + ": parcels", r.view(0, 0), due == DONE ? 1 : 2);
        LandRegister turned = pair(second, first);
        due(what + ", turned", turned.state(turned.merge(0, 2, 0)), due);
    }

    /** A mortgage is written as ten times its creditor and one less than its amount. */
    private static void sameMortgages() {
        int[] none = {};
        int[] four = {11, 22, 33, 44};
        merged("none", none, none, DONE);
        merged("one", new int[] {11}, new int[] {11}, DONE);
        merged("four", four, four, DONE);
        merged("one and none", new int[] {11}, none, 11);
        merged("four and three", four, new int[] {11, 22, 33}, 11);
        merged("another first creditor", four, new int[] {21, 22, 33, 44}, 11);
        merged("another first amount", four, new int[] {12, 22, 33, 44}, 11);
        merged("another last creditor", four, new int[] {11, 22, 33, 54}, 11);
        merged("another last amount", four, new int[] {11, 22, 33, 45}, 11);
        merged("another order", four, new int[] {11, 22, 44, 33}, 11);
    }

    private static void sameShares() {
        LandRegister r = pair(new int[] {}, new int[] {});
        r.sell(0, 0, 0, 7, part(1, 2));
        due("one person less", r.state(r.merge(0, 0, 2)), 10);
        r.sell(0, 2, 0, 6, part(1, 2));
        due("another person", r.state(r.merge(0, 0, 2)), 10);
        r.sell(0, 2, 6, 7, part(1, 4));
        due("one person more", r.state(r.merge(0, 0, 2)), 10);
        r.sell(0, 2, 6, 7, part(250000, 1000000));
        due("the same after other sales", r.state(r.merge(0, 0, 2)), DONE);
        LandRegister little = pair(new int[] {}, new int[] {});
        little.sell(0, 0, 0, 7, part(1, 999999));
        little.sell(0, 2, 0, 7, part(1, 1000000));
        due("a little less", little.state(little.merge(0, 0, 2)), 10);
        LandRegister turned = pair(new int[] {}, new int[] {});
        turned.sell(0, 0, 0, 7, part(1, 3));
        turned.sell(0, 2, 0, 7, part(2, 3));
        due("the same fractions of others", turned.state(turned.merge(0, 0, 2)), 10);
        LandRegister both = pair(new int[] {11}, new int[] {});
        due("other mortgages", both.state(both.merge(0, 0, 2)), 11);
        both.sell(0, 0, 0, 7, part(1, 3));
        due("10 before 11", both.state(both.merge(0, 0, 2)), 10);
    }

    public static void main(String[] args) {
        check("1 a parcel that it names does not live", ReasonsTest::life);
        check("2 one that it names has a caution", ReasonsTest::caution);
        check("2, of the least number", ReasonsTest::cautionFirst);
        check("3 the share of the seller is less than what is sold", ReasonsTest::shareOfSeller);
        check("4 a share that it makes: the rest", ReasonsTest::fineRest);
        check("4 a share that it makes: the gain", ReasonsTest::fineGain);
        check("3, of the least number", ReasonsTest::shareBeforeFineness);
        check("6 there is no mortgage of a rank that it names", ReasonsTest::ranks);
        check("7 a consent is lacking", ReasonsTest::consents);
        check("7, bit c is the consent of person c", ReasonsTest::consentBits);
        check("9 the part is not less than the parcel", ReasonsTest::parts);
        check("10 the shares of the two are not the same", ReasonsTest::sameShares);
        check("11 their mortgages are not the same", ReasonsTest::sameMortgages);
        end("all reasons are as due");
    }
}
