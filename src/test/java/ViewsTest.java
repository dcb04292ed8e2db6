/** Which deeds a view goes through, in which order, and what deeds that come late make of others. */
public final class ViewsTest extends Checks {
    private interface Files {
        int file(LandRegister r, int fact);
    }

    /** Every day k from 0 to 7 founds one parcel of each fact day from 0 to k, in turns. */
    private static LandRegister grid() {
        LandRegister r = new LandRegister();
        for (int day = 0; day <= 7; day++) {
            for (int fact = day; fact >= 0; fact--) {
                r.found(fact, 10 * day + fact + 1, 0);
            }
            r.day();
        }
        return r;
    }

    private static void recordAndFactDays() {
        int[] facts = {0, 1, 2, 3, 4, 5, 6, 7, 8, 9, 59, 60};
        for (int rec = 0; rec <= 8; rec++) {
            for (int fact : facts) {
                viewOfGrid(rec, fact);
            }
        }
    }

    private static void viewOfGrid(int rec, int fact) {
        LandRegister r = grid();
        int living = 0;
        int deed = 0;
        String name = "view(" + rec + ", " + fact + ")";
        int count = r.view(rec, fact);
        for (int day = 0; day <= 7; day++) {
            for (int of = day; of >= 0; of--) {
                boolean seen = day <= rec && of <= fact;
                due(name + ": state(" + deed + ")", r.state(deed), seen ? DONE : NONE);
                due(name + ": area(" + 2 * deed + ")", r.area(2 * deed), seen ? 10 * day + of + 1 : 0);
                if (seen) {
                    due(name + ": parcel(" + living + ")", r.parcel(living), 2 * deed);
                    due(name + ": holding(0, " + living + ")", r.holding(0, living), 2 * deed);
                    living++;
                }
                deed++;
            }
        }
        due(name, count, living);
        due(name + ": no other", r.parcel(living), NONE);
        due(name + ": no other", r.holding(0, living), NONE);
    }

    private static void orderOfDeeds() {
        LandRegister r = onDay(4);
        r.found(0, 1, 0);
        r.pledge(4, 0, 1, 40);
        r.pledge(3, 0, 2, 30);
        r.pledge(1, 0, 3, 10);
        r.pledge(2, 0, 4, 20);
        amountsAre(r, 0, 10, 20, 30, 40);
        LandRegister same = onDay(4);
        same.found(2, 1, 0);
        same.pledge(2, 0, 1, 1);
        same.pledge(2, 0, 1, 2);
        same.day();
        same.pledge(2, 0, 1, 3);
        same.pledge(3, 0, 1, 5);
        same.day();
        same.pledge(2, 0, 1, 4);
        amountsAre(same, 0, 1, 2, 3, 4);
        due("the fifth", same.state(4), 5);
        same.view(4, 60);
        amountsAre(same, 0, 1, 2);
        same.view(5, 60);
        amountsAre(same, 0, 1, 2, 3, 5);
        same.view(6, 2);
        amountsAre(same, 0, 1, 2, 3, 4);
        due("not in the view", same.state(4), NONE);
    }

    private static void numbersWithinADay() {
        LandRegister r = onDay(1);
        r.pledge(1, 2, 0, 5);
        r.found(1, 1, 0);
        due("before the founding, by its number", r.state(0), 1);
        due("no mortgage", r.mortgage(2, 1, 1), NONE);
        LandRegister earlier = onDay(1);
        earlier.pledge(1, 2, 0, 5);
        earlier.found(0, 1, 0);
        due("after the founding, by its fact day", earlier.state(0), DONE);
        due("its mortgage", earlier.mortgage(2, 1, 1), 5);
        LandRegister void0 = onDay(1);
        void0.found(1, 1, 0);
        void0.pledge(0, 0, 0, 5);
        due("before the founding, by its fact day", void0.state(1), 1);
    }

    private static void viewOfToday() {
        LandRegister r = onDay(3);
        r.found(1, 5, 0);
        due("done", r.state(0), DONE);
        r.view(2, 60);
        due("not known on day 2", r.state(0), NONE);
        r.pledge(3, 79, 0, 1);
        due("a void deed turns to today as well", r.state(0), DONE);
        r.view(3, 0);
        due("not so on day 0", r.area(0), 0);
        r.day();
        due("a new day turns to today", r.area(0), 5);
        r.view(0, 0);
        refused("a refused deed does not", ARGUMENT, () -> r.found(5, 1, 0));
        due("area", r.area(0), 0);
        refused("a refused look does not", ARGUMENT, () -> r.view(5, 4));
        due("area", r.area(0), 0);
        r.view(4, 1);
        due("the look that was asked for last", r.area(0), 5);
        due("no change by looking", r.state(1), NONE);
        due("first look", r.view(4, 60), 1);
        due("second look", r.view(4, 60), 1);
    }

    /**
     * A deed that holds from day 5 is done; one that comes late and holds from day 3 makes it
     * void for the reason; one that comes later still, from day 4, makes it done again.
     */
    private static void turned(String what, LandRegister r, Files deed, Files hinders, Files helps, int reason) {
        daysGoBy(r, 5);
        int number = deed.file(r, 5);
        due(what + " is done", r.state(number), DONE);
        r.day();
        int second = hinders.file(r, 3);
        due(what + ": what comes late is done", r.state(second), DONE);
        due(what + " is void", r.state(number), reason);
        r.day();
        int third = helps.file(r, 4);
        due(what + ": what comes later still is done", r.state(third), DONE);
        due(what + " is done again", r.state(number), DONE);
        r.view(7, 4);
        due(what + " is not in the view of day 4", r.state(number), NONE);
        r.view(6, 60);
        due(what + " was void by what was known on day 6", r.state(number), reason);
        r.view(5, 5);
        due(what + " was done by what was known on day 5", r.state(number), DONE);
        due(what + ": what came late was not known", r.state(second), NONE);
        r.view(4, 60);
        due(what + " was not known on day 4", r.state(number), NONE);
        r.view(7, 5);
        due(what + " is done on day 5", r.state(number), DONE);
    }

    private static LandRegister twoParcels() {
        LandRegister r = withParcel();
        r.found(0, 7, 0);
        return r;
    }

    private static void lateSales() {
        turned("a sale", withParcel(), (r, f) -> r.sell(f, 0, 0, 1, part(1, 2)),
                (r, f) -> r.caution(f, 0, 7), (r, f) -> r.lift(f, 0, 7), 2);
        turned("a sale", withParcel(), (r, f) -> r.sell(f, 0, 0, 1, part(1, 2)),
                (r, f) -> r.sell(f, 0, 0, 2, part(3, 4)), (r, f) -> r.sell(f, 0, 2, 0, part(1, 4)), 3);
        turned("a sale", withParcel(), (r, f) -> r.sell(f, 0, 0, 1, part(1, 9901)),
                (r, f) -> r.sell(f, 0, 0, 2, part(1, 101)), (r, f) -> r.sell(f, 0, 2, 0, part(1, 101)), 4);
    }

    private static void lateMortgages() {
        turned("a pledge", withMortgages(1, 2, 3), (r, f) -> r.pledge(f, 0, 4, 1),
                (r, f) -> r.pledge(f, 0, 5, 1), (r, f) -> r.release(f, 0, 4), 5);
        turned("a release", withMortgages(1), (r, f) -> r.release(f, 0, 1),
                (r, f) -> r.release(f, 0, 1), (r, f) -> r.pledge(f, 0, 2, 1), 6);
        turned("a new rank", withMortgages(1, 2), (r, f) -> r.rerank(f, 0, 1, 2, 1 << 1),
                (r, f) -> r.release(f, 0, 2), (r, f) -> r.pledge(f, 0, 3, 1), 6);
        turned("a new rank", withMortgages(1, 2), (r, f) -> r.rerank(f, 0, 1, 2, 1 << 1),
                (r, f) -> r.rerank(f, 0, 1, 2, 1 << 1), (r, f) -> r.rerank(f, 0, 2, 1, 1 << 2), 7);
        turned("a new rank", withMortgages(1, 2), (r, f) -> r.rerank(f, 0, 2, 1, 1 << 1),
                (r, f) -> r.caution(f, 0, 0), (r, f) -> r.lift(f, 0, 0), 2);
    }

    private static void lateCautions() {
        turned("a caution", withParcel(), (r, f) -> r.caution(f, 0, 1),
                (r, f) -> r.caution(f, 0, 1), (r, f) -> r.lift(f, 0, 1), 8);
        LandRegister cautioned = withParcel();
        cautioned.caution(0, 0, 1);
        turned("a lift", cautioned, (r, f) -> r.lift(f, 0, 1),
                (r, f) -> r.lift(f, 0, 1), (r, f) -> r.caution(f, 0, 1), 8);
    }

    private static void lateParts() {
        turned("a split", withParcel(), (r, f) -> r.split(f, 0, 99),
                (r, f) -> r.caution(f, 0, 1), (r, f) -> r.lift(f, 0, 1), 2);
        turned("a merger", twoParcels(), (r, f) -> r.merge(f, 0, 2),
                (r, f) -> r.caution(f, 2, 1), (r, f) -> r.lift(f, 2, 1), 2);
        turned("a merger", twoParcels(), (r, f) -> r.merge(f, 0, 2),
                (r, f) -> r.sell(f, 0, 0, 1, part(1, 2)), (r, f) -> r.sell(f, 2, 0, 1, part(2, 4)), 10);
        turned("a merger", twoParcels(), (r, f) -> r.merge(f, 0, 2),
                (r, f) -> r.pledge(f, 2, 1, 5), (r, f) -> r.pledge(f, 0, 1, 5), 11);
    }

    /** A late split ends the parcel of a deed; a late caution that is lifted in time undoes it. */
    private static void lateEnd() {
        LandRegister r = withParcel();
        daysGoBy(r, 5);
        r.pledge(5, 0, 1, 10);
        r.split(3, 0, 40);
        due("its parcel does not live any more", r.state(1), 1);
        livingAre(r, 4, 5);
        due("the parts have no mortgage", r.mortgage(4, 1, 1), NONE);
        r.caution(2, 0, 7);
        due("the split is void", r.state(2), 2);
        due("the pledge is hindered by another rule", r.state(1), 2);
        livingAre(r, 0);
        due("no part was made", r.origin(4, 0), NONE);
        r.lift(4, 0, 7);
        due("the split is still void", r.state(2), 2);
        due("the pledge is done", r.state(1), DONE);
        due("its mortgage", r.mortgage(0, 1, 1), 10);
        r.lift(2, 0, 7);
        due("the split is done again", r.state(2), DONE);
        due("the other lift is void", r.state(4), 1);
        due("the pledge is void again", r.state(1), 1);
        livingAre(r, 4, 5);
        due("the parts", r.origin(5, 0), 0);
    }

    /** A parcel that is founded late: what named it is void for one rule, then for another, then done. */
    private static void lateBeginning() {
        LandRegister r = onDay(5);
        r.split(5, 4, 30);
        r.sell(4, 4, 0, 1, part(1, 1));
        due("nothing to split", r.state(0), 1);
        due("nothing to sell", r.state(1), 1);
        r.found(3, 30, 0);
        due("the part is not less", r.state(0), 9);
        due("the sale is done", r.state(1), DONE);
        due("the new owner", r.share(4, 1), part(1, 1));
        r.sell(3, 4, 0, 2, part(1, 1));
        due("the seller has nothing any more", r.state(1), 3);
        due("the owner now", r.share(4, 2), part(1, 1));
        LandRegister s = onDay(5);
        s.split(5, 2, 29);
        due("nothing to split", s.state(0), 1);
        s.found(5, 30, 0);
        due("of that day, but of a later number", s.state(0), 1);
        LandRegister t = onDay(5);
        t.split(5, 2, 29);
        t.found(4, 30, 0);
        due("now there is", t.state(0), DONE);
        livingAre(t, 0, 1);
    }

    /** Parts of parts and what they were merged to: one late caution takes away all of it. */
    private static void chain() {
        LandRegister r = withParcel();
        daysGoBy(r, 9);
        r.split(2, 0, 40);
        r.split(3, 2, 10);
        r.merge(4, 4, 3);
        r.pledge(5, 6, 7, 9);
        r.merge(6, 6, 5);
        due("other mortgages", r.state(5), 11);
        r.pledge(5, 5, 7, 9);
        due("the same", r.state(5), DONE);
        due("all together", r.area(10), 100);
        livingAre(r, 10);
        r.caution(1, 0, 3);
        int[] states = {DONE, 2, 1, 1, 1, 1, 1, DONE};
        for (int deed = 0; deed < states.length; deed++) {
            due("state(" + deed + ")", r.state(deed), states[deed]);
        }
        livingAre(r, 0);
        due("nothing is owed", r.owed(7), 0);
        r.lift(1, 0, 3);
        due("all together again", r.area(10), 100);
        due("first", r.origin(10, 0), 6);
        due("second", r.origin(10, 1), 5);
        due("ended parcels have origins too", r.origin(6, 1), 3);
        livingAre(r, 10);
        due("owed", r.owed(7), 9);
    }

    public static void main(String[] args) {
        check("record day not after rec, fact day not after fact", ViewsTest::recordAndFactDays);
        check("in the order of their fact days", ViewsTest::orderOfDeeds);
        check("those of one fact day by their numbers", ViewsTest::numbersWithinADay);
        check("after each deed and each new day", ViewsTest::viewOfToday);
        check("late deeds about shares", ViewsTest::lateSales);
        check("late deeds about mortgages", ViewsTest::lateMortgages);
        check("late deeds about cautions", ViewsTest::lateCautions);
        check("late deeds about parts", ViewsTest::lateParts);
        check("late deeds that end a parcel", ViewsTest::lateEnd);
        check("late deeds that begin a parcel", ViewsTest::lateBeginning);
        check("late deeds and a chain of parcels", ViewsTest::chain);
        end("all views are as due");
    }
}
