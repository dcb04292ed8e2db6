/** Each promise of the document by itself: ordinary inputs, edges, wrong inputs. */
public final class PromiseTest extends Checks {
    private static void newObject() {
        LandRegister r = new LandRegister();
        due("NONE", NONE, -1);
        due("parcel(0)", r.parcel(0), NONE);
        for (int p = 0; p < 80; p++) {
            due("area", r.area(p), 0);
            due("origin", r.origin(p, 0), NONE);
            due("origin", r.origin(p, 1), NONE);
        }
        for (int person = 0; person < 8; person++) {
            due("share", r.share(0, person), 0);
            due("holding", r.holding(person, 0), NONE);
            due("owed", r.owed(person), 0);
        }
        refused("state(0)", INDEX, () -> r.state(0));
        refused("view(1, 0): today is 0", ARGUMENT, () -> r.view(1, 0));
        refused("found(1, ..): today is 0", ARGUMENT, () -> r.found(1, 1, 0));
        due("view(0, 0)", r.view(0, 0), 0);
        due("first number", r.found(0, 1, 0), 0);
        due("objects are apart", new LandRegister().view(0, 0), 0);
    }

    private static void found() {
        LandRegister r = onDay(2);
        due("number", r.found(2, 1, 0), 0);
        due("number", r.found(0, 1000000000, 7), 1);
        due("state", r.state(0), 0);
        due("state", r.state(1), 0);
        due("area", r.area(0), 1);
        due("area", r.area(2), 1000000000);
        due("area of 2n + 1", r.area(3), 0);
        due("share", r.share(2, 7), part(1, 1));
        due("share of another", r.share(2, 0), 0);
        due("mortgage", r.mortgage(2, 1, 0), NONE);
        due("cautions", r.cautions(2), 0);
        refused("fact day -1", ARGUMENT, () -> r.found(-1, 1, 0));
        refused("fact day 3", ARGUMENT, () -> r.found(3, 1, 0));
        refused("area 0", ARGUMENT, () -> r.found(0, 0, 0));
        refused("area -1", ARGUMENT, () -> r.found(0, -1, 0));
        refused("area 1000000001", ARGUMENT, () -> r.found(0, 1000000001, 0));
        refused("owner -1", ARGUMENT, () -> r.found(0, 1, -1));
        refused("owner 8", ARGUMENT, () -> r.found(0, 1, 8));
        due("nothing was filed", r.found(1, 5, 3), 2);
    }

    private static void sell() {
        LandRegister r = withParcel();
        due("number", r.sell(0, 0, 0, 1, part(2, 6)), 1);
        due("rest", r.share(0, 0), part(2, 3));
        due("got", r.share(0, 1), part(1, 3));
        r.sell(0, 0, 0, 1, part(1, 6));
        due("rest", r.share(0, 0), part(1, 2));
        due("got", r.share(0, 1), part(1, 2));
        r.sell(0, 0, 0, 2, part(3, 6));
        due("all sold", r.share(0, 0), 0);
        due("got", r.share(0, 2), part(1, 2));
        due("too much", r.state(r.sell(0, 0, 1, 0, part(500001, 1000000))), 3);
        due("nothing to sell", r.state(r.sell(0, 0, 5, 0, part(1, 1000000))), 3);
        due("just all", r.state(r.sell(0, 0, 1, 2, part(500000, 1000000))), 0);
        due("the whole", r.share(0, 2), part(1, 1));
        due("whole sold on", r.state(r.sell(0, 0, 2, 7, part(1000000, 1000000))), 0);
        due("the whole", r.share(0, 7), part(1, 1));
        due("not living", r.state(r.sell(0, 1, 0, 1, part(1, 2))), 1);
        r.caution(0, 0, 4);
        due("caution before share", r.state(r.sell(0, 0, 0, 1, part(1, 2))), 2);
        sellFineShares();
        sellWrongly();
    }

    private static void sellFineShares() {
        LandRegister r = withParcel();
        due("1000000 parts", r.state(r.sell(0, 0, 0, 1, part(1, 1000000))), 0);
        due("rest", r.share(0, 0), part(999999, 1000000));
        due("rest and gain too fine", r.state(r.sell(0, 0, 0, 1, part(1, 3))), 4);
        due("too much before too fine", r.state(r.sell(0, 0, 1, 2, part(1, 999999))), 3);
        LandRegister s = withParcel();
        s.sell(0, 0, 0, 1, part(1, 997));
        s.sell(0, 0, 0, 2, part(1, 991));
        due("997 * 991 is fine", s.share(0, 0), part(997 * 991 - 997 - 991, 997 * 991));
        due("all of 2's", s.state(s.sell(0, 0, 2, 1, part(1, 991))), 0);
        due("got", s.share(0, 1), part(997 + 991, 997 * 991));
        LandRegister t = withParcel();
        t.sell(0, 0, 0, 1, part(1, 1009));
        due("rest alone too fine", t.state(t.sell(0, 0, 0, 2, part(1, 1013))), 4);
        LandRegister u = withParcel();
        u.sell(0, 0, 0, 3, part(1, 2));
        u.sell(0, 0, 0, 1, part(101 + 103, 101 * 103));
        u.sell(0, 0, 3, 2, part(1, 107));
        due("rest", u.share(0, 3), part(105, 214));
        due("gain alone too fine: 101 * 103 * 107", u.state(u.sell(0, 0, 2, 1, part(1, 107))), 4);
        due("a void deed changes nothing", u.share(0, 2), part(1, 107));
    }

    private static void sellWrongly() {
        LandRegister r = withParcel();
        long half = part(1, 2);
        refused("fact day 1", ARGUMENT, () -> r.sell(1, 0, 0, 1, half));
        refused("fact day -1", ARGUMENT, () -> r.sell(-1, 0, 0, 1, half));
        refused("parcel 80", ARGUMENT, () -> r.sell(0, 80, 0, 1, half));
        refused("parcel -1", ARGUMENT, () -> r.sell(0, -1, 0, 1, half));
        refused("from 8", ARGUMENT, () -> r.sell(0, 0, 8, 1, half));
        refused("from -1", ARGUMENT, () -> r.sell(0, 0, -1, 1, half));
        refused("to 8", ARGUMENT, () -> r.sell(0, 0, 0, 8, half));
        refused("to -1", ARGUMENT, () -> r.sell(0, 0, 0, -1, half));
        refused("same person", ARGUMENT, () -> r.sell(0, 0, 1, 1, half));
        refused("0 / 1", ARGUMENT, () -> r.sell(0, 0, 0, 1, part(0, 1)));
        refused("1 / 0", ARGUMENT, () -> r.sell(0, 0, 0, 1, part(1, 0)));
        refused("0 / 0", ARGUMENT, () -> r.sell(0, 0, 0, 1, 0));
        refused("3 / 2", ARGUMENT, () -> r.sell(0, 0, 0, 1, part(3, 2)));
        refused("1 / 1000001", ARGUMENT, () -> r.sell(0, 0, 0, 1, part(1, 1000001)));
        refused("-1 / 2", ARGUMENT, () -> r.sell(0, 0, 0, 1, part(-1, 2)));
        refused("1 / -2", ARGUMENT, () -> r.sell(0, 0, 0, 1, part(1, -2)));
        refused("-1 / -2", ARGUMENT, () -> r.sell(0, 0, 0, 1, part(-1, -2)));
        refused("least long", ARGUMENT, () -> r.sell(0, 0, 0, 1, Long.MIN_VALUE));
        refused("greatest long", ARGUMENT, () -> r.sell(0, 0, 0, 1, Long.MAX_VALUE));
        due("nothing was filed", r.sell(0, 79, 6, 7, part(1, 1)), 1);
    }

    private static void pledge() {
        LandRegister r = withParcel();
        due("number", r.pledge(0, 0, 7, 1), 1);
        due("the greatest amount", r.state(r.pledge(0, 0, 0, 1000000000)), 0);
        r.pledge(0, 0, 7, 3);
        due("fourth", r.state(r.pledge(0, 0, 2, 4)), 0);
        due("fifth", r.state(r.pledge(0, 0, 2, 5)), 5);
        creditorsAre(r, 0, 7, 0, 7, 2);
        amountsAre(r, 0, 1, 1000000000, 3, 4);
        due("not living", r.state(r.pledge(0, 1, 0, 1)), 1);
        r.caution(0, 0, 0);
        due("caution before full", r.state(r.pledge(0, 0, 2, 5)), 2);
        refused("fact day 1", ARGUMENT, () -> r.pledge(1, 0, 0, 1));
        refused("fact day -1", ARGUMENT, () -> r.pledge(-1, 0, 0, 1));
        refused("parcel 80", ARGUMENT, () -> r.pledge(0, 80, 0, 1));
        refused("parcel -1", ARGUMENT, () -> r.pledge(0, -1, 0, 1));
        refused("creditor 8", ARGUMENT, () -> r.pledge(0, 0, 8, 1));
        refused("creditor -1", ARGUMENT, () -> r.pledge(0, 0, -1, 1));
        refused("amount 0", ARGUMENT, () -> r.pledge(0, 0, 0, 0));
        refused("amount 1000000001", ARGUMENT, () -> r.pledge(0, 0, 0, 1000000001));
    }

    private static void rerank() {
        LandRegister up = withMortgages(1, 2, 3, 4);
        due("a consent lacks", up.state(up.rerank(0, 0, 4, 2, 1 << 2)), 7);
        due("the other lacks", up.state(up.rerank(0, 0, 4, 2, 1 << 3)), 7);
        amountsAre(up, 0, 10, 20, 30, 40);
        due("both consent", up.state(up.rerank(0, 0, 4, 2, 1 << 2 | 1 << 3)), 0);
        amountsAre(up, 0, 10, 40, 20, 30);
        creditorsAre(up, 0, 1, 4, 2, 3);
        LandRegister down = withMortgages(1, 2, 3, 4);
        due("those that gain need not consent", down.state(down.rerank(0, 0, 1, 3, 1 << 1)), 0);
        amountsAre(down, 0, 20, 30, 10, 40);
        creditorsAre(down, 0, 2, 3, 1, 4);
        LandRegister without = withMortgages(1, 2, 3, 4);
        due("all consent but the one", without.state(without.rerank(0, 0, 1, 3, ~(1 << 1))), 7);
        LandRegister gains = withMortgages(1, 2, 1, 4);
        due("also gains", gains.state(gains.rerank(0, 0, 1, 3, 0)), 0);
        amountsAre(gains, 0, 20, 30, 10, 40);
        LandRegister next = withMortgages(1, 1, 3, 4);
        due("the next one gains", next.state(next.rerank(0, 0, 1, 3, 0)), 0);
        LandRegister stays = withMortgages(1, 2, 3, 1);
        due("its other one stays", stays.state(stays.rerank(0, 0, 1, 3, 0)), 7);
        LandRegister moved = withMortgages(1, 2, 3, 1);
        due("the moved one's creditor loses too", moved.state(moved.rerank(0, 0, 4, 1, 1 << 2 | 1 << 3)), 0);
        amountsAre(moved, 0, 40, 10, 20, 30);
        rerankEdges();
    }

    private static void rerankEdges() {
        LandRegister r = withMortgages(0, 7);
        due("no rank to go to", r.state(r.rerank(0, 0, 1, 3, -1)), 6);
        due("no rank to come from", r.state(r.rerank(0, 0, 3, 1, -1)), 6);
        due("rank before consent", r.state(r.rerank(0, 0, 1, 4, 0)), 6);
        due("consent of 7", r.state(r.rerank(0, 0, 1, 2, 1)), 0);
        due("consent of 7", r.state(r.rerank(0, 0, 1, 2, 1 << 7)), 0);
        due("bits above 7 are free", r.state(r.rerank(0, 0, 1, 2, 0x7FFFFF00)), 7);
        due("not living", r.state(r.rerank(0, 1, 1, 2, -1)), 1);
        r.caution(0, 0, 3);
        due("caution before rank", r.state(r.rerank(0, 0, 1, 3, -1)), 2);
        refused("fact day 1", ARGUMENT, () -> r.rerank(1, 0, 1, 2, 0));
        refused("fact day -1", ARGUMENT, () -> r.rerank(-1, 0, 1, 2, 0));
        refused("parcel 80", ARGUMENT, () -> r.rerank(0, 80, 1, 2, 0));
        refused("parcel -1", ARGUMENT, () -> r.rerank(0, -1, 1, 2, 0));
        refused("from 0", ARGUMENT, () -> r.rerank(0, 0, 0, 2, 0));
        refused("from 5", ARGUMENT, () -> r.rerank(0, 0, 5, 2, 0));
        refused("to 0", ARGUMENT, () -> r.rerank(0, 0, 1, 0, 0));
        refused("to 5", ARGUMENT, () -> r.rerank(0, 0, 1, 5, 0));
        refused("the same", ARGUMENT, () -> r.rerank(0, 0, 2, 2, 0));
    }

    private static void release() {
        LandRegister r = withMortgages(1, 2, 3, 4);
        due("number", r.release(0, 0, 2), 5);
        due("state", r.state(5), 0);
        amountsAre(r, 0, 10, 30, 40);
        creditorsAre(r, 0, 1, 3, 4);
        due("no such rank", r.state(r.release(0, 0, 4)), 6);
        r.caution(0, 0, 0);
        due("no caution hinders", r.state(r.release(0, 0, 3)), 0);
        due("nor here", r.state(r.release(0, 0, 1)), 0);
        amountsAre(r, 0, 30);
        due("the last", r.state(r.release(0, 0, 1)), 0);
        due("none left", r.state(r.release(0, 0, 1)), 6);
        due("not living", r.state(r.release(0, 1, 1)), 1);
        refused("fact day 1", ARGUMENT, () -> r.release(1, 0, 1));
        refused("fact day -1", ARGUMENT, () -> r.release(-1, 0, 1));
        refused("parcel 80", ARGUMENT, () -> r.release(0, 80, 1));
        refused("parcel -1", ARGUMENT, () -> r.release(0, -1, 1));
        refused("rank 0", ARGUMENT, () -> r.release(0, 0, 0));
        refused("rank 5", ARGUMENT, () -> r.release(0, 0, 5));
    }

    private static void caution() {
        LandRegister r = withParcel();
        due("number", r.caution(0, 0, 7), 1);
        due("another one's", r.state(r.caution(0, 0, 0)), 0);
        due("cautions", r.cautions(0), 1 << 7 | 1);
        due("such a one already", r.state(r.caution(0, 0, 7)), 8);
        due("not living", r.state(r.caution(0, 1, 7)), 1);
        refused("fact day 1", ARGUMENT, () -> r.caution(1, 0, 0));
        refused("fact day -1", ARGUMENT, () -> r.caution(-1, 0, 0));
        refused("parcel 80", ARGUMENT, () -> r.caution(0, 80, 0));
        refused("parcel -1", ARGUMENT, () -> r.caution(0, -1, 0));
        refused("person 8", ARGUMENT, () -> r.caution(0, 0, 8));
        refused("person -1", ARGUMENT, () -> r.caution(0, 0, -1));
    }

    private static void lift() {
        LandRegister r = withParcel();
        r.caution(0, 0, 7);
        r.caution(0, 0, 2);
        due("number", r.lift(0, 0, 7), 3);
        due("state", r.state(3), 0);
        due("cautions", r.cautions(0), 1 << 2);
        due("none to be lifted", r.state(r.lift(0, 0, 7)), 8);
        due("the other still hinders", r.state(r.pledge(0, 0, 0, 1)), 2);
        r.lift(0, 0, 2);
        due("no caution hinders now", r.state(r.pledge(0, 0, 0, 1)), 0);
        due("again one", r.state(r.caution(0, 0, 7)), 0);
        due("not living", r.state(r.lift(0, 1, 7)), 1);
        refused("fact day 1", ARGUMENT, () -> r.lift(1, 0, 0));
        refused("fact day -1", ARGUMENT, () -> r.lift(-1, 0, 0));
        refused("parcel 80", ARGUMENT, () -> r.lift(0, 80, 0));
        refused("parcel -1", ARGUMENT, () -> r.lift(0, -1, 0));
        refused("person 8", ARGUMENT, () -> r.lift(0, 0, 8));
        refused("person -1", ARGUMENT, () -> r.lift(0, 0, -1));
    }

    private static void split() {
        LandRegister r = withMortgages(1, 2);
        r.sell(0, 0, 0, 3, part(1, 4));
        due("part as great as the parcel", r.state(r.split(0, 0, 100)), 9);
        due("part greater", r.state(r.split(0, 0, 1000000000)), 9);
        due("number", r.split(0, 0, 99), 6);
        due("state", r.state(6), 0);
        due("the parcel ends", r.area(0), 0);
        due("part", r.area(12), 99);
        due("rest", r.area(13), 1);
        for (int p = 12; p <= 13; p++) {
            due("share", r.share(p, 0), part(3, 4));
            due("share", r.share(p, 3), part(1, 4));
            creditorsAre(r, p, 1, 2);
            amountsAre(r, p, 10, 20);
            due("cautions", r.cautions(p), 0);
        }
        r.pledge(0, 12, 5, 7);
        r.sell(0, 12, 0, 6, part(3, 4));
        amountsAre(r, 12, 10, 20, 7);
        amountsAre(r, 13, 10, 20);
        due("the rest keeps its shares", r.share(13, 0), part(3, 4));
        due("not living", r.state(r.split(0, 0, 1)), 1);
        due("it can't be of its own parts", r.state(r.split(0, 20, 1)), 1);
        due("area 1 has no parts", r.state(r.split(0, 13, 1)), 9);
        due("a caution of a part", r.state(r.caution(0, 12, 1)), 0);
        due("caution before part", r.state(r.split(0, 12, 1000)), 2);
        r.lift(0, 12, 1);
        due("a lifted caution", r.state(r.split(0, 12, 98)), 0);
        LandRegister again = withParcel();
        again.split(0, 0, 40);
        again.caution(0, 2, 1);
        again.view(0, 0);
        due("a caution of a part, looked at again", again.state(2), 0);
        refused("fact day 1", ARGUMENT, () -> r.split(1, 0, 1));
        refused("fact day -1", ARGUMENT, () -> r.split(-1, 0, 1));
        refused("parcel 80", ARGUMENT, () -> r.split(0, 80, 1));
        refused("parcel -1", ARGUMENT, () -> r.split(0, -1, 1));
        refused("area 0", ARGUMENT, () -> r.split(0, 0, 0));
        refused("area 1000000001", ARGUMENT, () -> r.split(0, 0, 1000000001));
    }

    private static void merge() {
        LandRegister r = new LandRegister();
        for (int d = 0; d < 5; d++) {
            r.found(0, 1000000000, 1);
        }
        r.pledge(0, 0, 6, 5);
        r.pledge(0, 2, 6, 5);
        r.sell(0, 0, 1, 2, part(1, 2));
        r.sell(0, 2, 1, 2, part(2, 4));
        due("number", r.merge(0, 2, 0), 9);
        due("state", r.state(9), 0);
        due("area above an int", r.area(18), 2000000000L);
        due("both end", r.area(0) + r.area(2), 0);
        due("2n + 1 is not made", r.area(19), 0);
        due("share", r.share(18, 1), part(1, 2));
        due("share", r.share(18, 2), part(1, 2));
        amountsAre(r, 18, 5);
        due("creditor", r.mortgage(18, 1, 0), 6);
        r.merge(0, 4, 6);
        due("three", r.state(r.merge(0, 20, 8)), 0);
        due("area above an int", r.area(22), 3000000000L);
        due("split of it", r.state(r.split(0, 22, 1000000000)), 0);
        due("rest", r.area(25), 2000000000L);
        mergeHindrances();
        refused("fact day 1", ARGUMENT, () -> r.merge(1, 0, 1));
        refused("fact day -1", ARGUMENT, () -> r.merge(-1, 0, 1));
        refused("first 80", ARGUMENT, () -> r.merge(0, 80, 1));
        refused("first -1", ARGUMENT, () -> r.merge(0, -1, 1));
        refused("second 80", ARGUMENT, () -> r.merge(0, 1, 80));
        refused("second -1", ARGUMENT, () -> r.merge(0, 1, -1));
        refused("the same", ARGUMENT, () -> r.merge(0, 1, 1));
    }

    private static void mergeHindrances() {
        LandRegister r = withParcel();
        r.found(0, 5, 0);
        due("second not living", r.state(r.merge(0, 0, 1)), 1);
        due("first not living", r.state(r.merge(0, 1, 0)), 1);
        r.pledge(0, 0, 1, 10);
        due("fewer mortgages", r.state(r.merge(0, 0, 2)), 11);
        due("more mortgages", r.state(r.merge(0, 2, 0)), 11);
        r.pledge(0, 2, 1, 11);
        due("other amount", r.state(r.merge(0, 0, 2)), 11);
        r.release(0, 2, 1);
        r.pledge(0, 2, 2, 10);
        due("other creditor", r.state(r.merge(0, 0, 2)), 11);
        r.sell(0, 0, 0, 7, part(1, 2));
        due("shares before mortgages", r.state(r.merge(0, 0, 2)), 10);
        r.caution(0, 2, 0);
        due("caution on the second", r.state(r.merge(0, 0, 2)), 2);
        due("caution on the first", r.state(r.merge(0, 2, 0)), 2);
        due("life before caution", r.state(r.merge(0, 2, 1)), 1);
        due("both stay", r.view(0, 0), 2);
        LandRegister order = withMortgages(1, 2);
        order.split(0, 0, 50);
        order.rerank(0, 6, 1, 2, -1);
        due("other order of ranks", order.state(order.merge(0, 6, 7)), 11);
        order.rerank(0, 6, 1, 2, -1);
        due("the same order", order.state(order.merge(0, 6, 7)), 0);
        LandRegister released = withParcel();
        released.found(0, 5, 0);
        released.pledge(0, 0, 1, 10);
        released.release(0, 0, 1);
        due("a released mortgage does not count", released.state(released.merge(0, 0, 2)), 0);
        LandRegister four = withMortgages(1, 2, 3, 4);
        four.split(0, 0, 50);
        due("four mortgages", four.state(four.merge(0, 10, 11)), 0);
        amountsAre(four, 12, 10, 20, 30, 40);
        creditorsAre(four, 12, 1, 2, 3, 4);
    }

    private static void day() {
        LandRegister r = withParcel();
        for (int d = 1; d <= 60; d++) {
            due("day()", r.day(), d);
        }
        due("a view of that day", r.view(60, 60), 1);
        due("a deed of that day", r.found(60, 1, 0), 1);
        r.view(0, 0);
        refused("day 61", STATE, () -> r.day());
        due("the view stays", r.state(1), NONE);
        due("it is still day 60", r.found(60, 1, 0), 2);
        LandRegister s = onDay(1);
        s.found(0, 1, 0);
        s.view(0, 0);
        due("not in that view", s.state(0), NONE);
        s.day();
        due("a new day is looked at", s.state(0), 0);
    }

    private static void view() {
        LandRegister r = onDay(1);
        r.found(0, 10, 0);
        r.found(1, 20, 0);
        r.day();
        r.day();
        r.found(1, 30, 0);
        r.split(3, 0, 4);
        due("view(0, 60)", r.view(0, 60), 0);
        due("view(1, 0)", r.view(1, 0), 1);
        due("view(1, 1)", r.view(1, 1), 2);
        due("view(2, 2)", r.view(2, 2), 2);
        due("view(3, 0)", r.view(3, 0), 1);
        due("view(3, 2)", r.view(3, 2), 3);
        due("view(3, 60)", r.view(3, 60), 4);
        due("view(1, 3)", r.view(1, 3), 2);
        refused("rec 4", ARGUMENT, () -> r.view(4, 0));
        refused("rec -1", ARGUMENT, () -> r.view(-1, 0));
        refused("fact 61", ARGUMENT, () -> r.view(0, 61));
        refused("fact -1", ARGUMENT, () -> r.view(0, -1));
        due("a refused look leaves the view", r.state(2), NONE);
        due("and its parcels", r.area(0), 10);
        refused("a refused deed", ARGUMENT, () -> r.found(0, 0, 0));
        due("leaves it too", r.state(2), NONE);
        r.found(3, 1, 0);
        due("a deed turns it to today", r.state(2), 0);
        due("and its parcels", r.area(0), 0);
        lateDeeds();
    }

    private static void lateDeeds() {
        LandRegister r = withParcel();
        r.day();
        r.day();
        r.sell(2, 0, 0, 1, part(1, 1));
        r.pledge(2, 0, 3, 9);
        r.day();
        r.caution(1, 0, 5);
        due("a late caution makes void", r.state(1), 2);
        due("and this too", r.state(2), 2);
        due("no share", r.share(0, 1), 0);
        r.lift(2, 0, 5);
        due("a later number of that day comes after", r.state(1), 2);
        r.lift(1, 0, 5);
        due("a late lift makes it done again", r.state(1), 0);
        due("and this too", r.state(2), 0);
        due("there is none to be lifted now", r.state(4), 8);
        r.view(2, 3);
        due("what was known before", r.state(1), 0);
        due("the caution was not known", r.state(3), NONE);
        LandRegister s = onDay(2);
        s.pledge(2, 2, 0, 5);
        due("of a parcel to come", s.state(0), 1);
        s.found(1, 7, 4);
        due("a late foundation", s.state(0), 0);
        due("mortgage", s.mortgage(2, 1, 1), 5);
        s.view(2, 1);
        due("mortgage before its day", s.mortgage(2, 1, 1), NONE);
    }

    private static void parcel() {
        LandRegister r = new LandRegister();
        for (int d = 0; d < 4; d++) {
            r.found(0, 10, 0);
        }
        r.split(0, 2, 5);
        int[] living = {0, 4, 6, 8, 9};
        for (int i = 0; i < living.length; i++) {
            due("parcel(" + i + ")", r.parcel(i), living[i]);
        }
        due("parcel(5)", r.parcel(5), NONE);
        due("parcel(-1)", r.parcel(-1), NONE);
        due("parcel of the greatest int", r.parcel(Integer.MAX_VALUE), NONE);
        due("parcel of the least int", r.parcel(Integer.MIN_VALUE), NONE);
        LandRegister full = full();
        due("parcel(39)", full.parcel(39), 78);
        due("parcel(40)", full.parcel(40), NONE);
        LandRegister last = new LandRegister();
        for (int d = 0; d < 39; d++) {
            last.found(0, 2, 0);
        }
        last.split(0, 0, 1);
        due("the last number", last.parcel(39), 79);
        due("its area", last.area(79), 1);
    }

    private static void area() {
        LandRegister r = onDay(1);
        r.found(1, 77, 0);
        due("living", r.area(0), 77);
        due("never made", r.area(79), 0);
        r.view(1, 0);
        due("not yet made in this view", r.area(0), 0);
        refused("area(80)", ARGUMENT, () -> r.area(80));
        refused("area(-1)", ARGUMENT, () -> r.area(-1));
    }

    private static void share() {
        LandRegister r = withParcel();
        r.sell(0, 0, 0, 7, part(6, 8));
        due("lowest terms", r.share(0, 7), part(3, 4));
        due("rest", r.share(0, 0), part(1, 4));
        due("without one", r.share(0, 3), 0);
        due("never made", r.share(79, 0), 0);
        r.split(0, 0, 1);
        due("ended", r.share(0, 7), 0);
        refused("parcel 80", ARGUMENT, () -> r.share(80, 0));
        refused("parcel -1", ARGUMENT, () -> r.share(-1, 0));
        refused("person 8", ARGUMENT, () -> r.share(0, 8));
        refused("person -1", ARGUMENT, () -> r.share(0, -1));
    }

    private static void mortgage() {
        LandRegister r = withMortgages(5, 6);
        due("creditor", r.mortgage(0, 1, 0), 5);
        due("amount", r.mortgage(0, 1, 1), 10);
        due("creditor", r.mortgage(0, 2, 0), 6);
        due("amount", r.mortgage(0, 2, 1), 20);
        due("another what", r.mortgage(0, 1, 2), NONE);
        due("another what", r.mortgage(0, 1, -1), NONE);
        for (int rank : new int[] {Integer.MIN_VALUE, -1, 0, 3, 4, 5, Integer.MAX_VALUE}) {
            due("rank " + rank, r.mortgage(0, rank, 0), NONE);
        }
        due("never made", r.mortgage(79, 1, 0), NONE);
        r.split(0, 0, 1);
        due("ended", r.mortgage(0, 1, 0), NONE);
        refused("parcel 80", ARGUMENT, () -> r.mortgage(80, 1, 0));
        refused("parcel -1", ARGUMENT, () -> r.mortgage(-1, 1, 0));
    }

    private static void cautions() {
        LandRegister r = withParcel();
        due("none", r.cautions(0), 0);
        for (int person = 0; person < 8; person++) {
            r.caution(0, 0, person);
            due("bits", r.cautions(0), (2 << person) - 1);
        }
        due("never made", r.cautions(79), 0);
        LandRegister s = onDay(1);
        s.found(1, 5, 0);
        s.caution(1, 0, 3);
        s.view(1, 0);
        due("not living in this view", s.cautions(0), 0);
        refused("cautions(80)", ARGUMENT, () -> r.cautions(80));
        refused("cautions(-1)", ARGUMENT, () -> r.cautions(-1));
    }

    private static void origin() {
        LandRegister r = withParcel();
        r.day();
        r.split(1, 0, 40);
        r.merge(1, 3, 2);
        due("founded", r.origin(0, 0), NONE);
        due("part", r.origin(2, 0), 0);
        due("rest", r.origin(3, 0), 0);
        due("a part has one alone", r.origin(2, 1), NONE);
        due("first merged", r.origin(4, 0), 3);
        due("second merged", r.origin(4, 1), 2);
        due("no third", r.origin(4, 2), NONE);
        due("none before the first", r.origin(4, -1), NONE);
        due("2n + 1 of a merge", r.origin(5, 0), NONE);
        r.split(1, 4, 100);
        due("of a void deed", r.origin(6, 0), NONE);
        r.view(1, 0);
        due("not in this view", r.origin(2, 0), NONE);
        due("not in this view", r.origin(4, 1), NONE);
        refused("origin(80, 0)", ARGUMENT, () -> r.origin(80, 0));
        refused("origin(-1, 0)", ARGUMENT, () -> r.origin(-1, 0));
    }

    private static void holding() {
        LandRegister r = new LandRegister();
        r.found(0, 10, 0);
        r.found(0, 10, 7);
        r.found(0, 10, 0);
        r.sell(0, 2, 7, 0, part(1, 1000000));
        r.sell(0, 4, 0, 7, part(1, 1));
        r.split(0, 0, 1);
        int[] held = {2, 10, 11};
        for (int i = 0; i < held.length; i++) {
            due("holding(0, " + i + ")", r.holding(0, i), held[i]);
        }
        due("holding(0, 3)", r.holding(0, 3), NONE);
        due("holding(0, -1)", r.holding(0, -1), NONE);
        due("parcel 0", withParcel().holding(0, 0), 0);
        due("holding(7, 0)", r.holding(7, 0), 2);
        due("holding(7, 1)", r.holding(7, 1), 4);
        due("holding(7, 2)", r.holding(7, 2), NONE);
        due("holding(3, 0)", r.holding(3, 0), NONE);
        refused("holding(8, 0)", ARGUMENT, () -> r.holding(8, 0));
        refused("holding(-1, 0)", ARGUMENT, () -> r.holding(-1, 0));
    }

    private static void owed() {
        LandRegister r = withParcel();
        for (int m = 0; m < 3; m++) {
            r.pledge(0, 0, 7, 1000000000);
        }
        r.pledge(0, 0, 6, 5);
        due("above an int", r.owed(7), 3000000000L);
        due("owed(6)", r.owed(6), 5);
        due("owed(0)", r.owed(0), 0);
        r.split(0, 0, 50);
        due("on both parts", r.owed(7), 6000000000L);
        r.release(0, 10, 1);
        due("one released", r.owed(7), 5000000000L);
        r.found(0, 1, 0);
        r.pledge(0, 14, 6, 9);
        due("over all parcels", r.owed(6), 19);
        refused("owed(8)", ARGUMENT, () -> r.owed(8));
        refused("owed(-1)", ARGUMENT, () -> r.owed(-1));
    }

    private static void state() {
        LandRegister r = onDay(2);
        r.found(1, 5, 0);
        r.release(2, 0, 1);
        due("done", r.state(0), 0);
        due("void", r.state(1), 6);
        r.view(1, 2);
        due("recorded later", r.state(0), NONE);
        r.view(2, 1);
        due("in the view", r.state(0), 0);
        due("holds later", r.state(1), NONE);
        refused("state(2)", INDEX, () -> r.state(2));
        refused("state(-1)", INDEX, () -> r.state(-1));
        refused("state of the greatest int", INDEX, () -> r.state(Integer.MAX_VALUE));
        refused("state of the least int", INDEX, () -> r.state(Integer.MIN_VALUE));
        LandRegister full = full();
        due("the last deed", full.state(39), 0);
        refused("state(40)", INDEX, () -> full.state(40));
    }

    /** The promises 2 to 10 together: 40 deeds are filed, and a wrong argument is named first. */
    private static void fullRegister() {
        LandRegister r = full();
        r.day();
        r.view(0, 0);
        refused("found", STATE, () -> r.found(0, 1, 0));
        refused("sell", STATE, () -> r.sell(0, 0, 0, 1, part(1, 2)));
        refused("pledge", STATE, () -> r.pledge(0, 0, 0, 1));
        refused("rerank", STATE, () -> r.rerank(0, 0, 1, 2, 0));
        refused("release", STATE, () -> r.release(0, 0, 1));
        refused("caution", STATE, () -> r.caution(0, 0, 0));
        refused("lift", STATE, () -> r.lift(0, 0, 0));
        refused("split", STATE, () -> r.split(0, 0, 1));
        refused("merge", STATE, () -> r.merge(0, 0, 2));
        refused("found wrongly", ARGUMENT, () -> r.found(0, 0, 0));
        refused("sell wrongly", ARGUMENT, () -> r.sell(0, 0, 0, 1, part(2, 1)));
        refused("pledge wrongly", ARGUMENT, () -> r.pledge(0, 0, 0, 0));
        refused("rerank wrongly", ARGUMENT, () -> r.rerank(0, 0, 1, 1, 0));
        refused("release wrongly", ARGUMENT, () -> r.release(0, 0, 5));
        refused("caution wrongly", ARGUMENT, () -> r.caution(0, 0, 8));
        refused("lift wrongly", ARGUMENT, () -> r.lift(2, 0, 0));
        refused("split wrongly", ARGUMENT, () -> r.split(0, 80, 1));
        refused("merge wrongly", ARGUMENT, () -> r.merge(0, 2, 2));
        due("still 40 parcels", r.view(1, 1), 40);
    }

    public static void main(String[] args) {
        check("promise 1", PromiseTest::newObject);
        check("promise 2", PromiseTest::found);
        check("promise 3", PromiseTest::sell);
        check("promise 4", PromiseTest::pledge);
        check("promise 5", PromiseTest::rerank);
        check("promise 6", PromiseTest::release);
        check("promise 7", PromiseTest::caution);
        check("promise 8", PromiseTest::lift);
        check("promise 9", PromiseTest::split);
        check("promise 10", PromiseTest::merge);
        check("promises 2 to 10", PromiseTest::fullRegister);
        check("promise 11", PromiseTest::day);
        check("promise 12", PromiseTest::view);
        check("promise 13", PromiseTest::parcel);
        check("promise 14", PromiseTest::area);
        check("promise 15", PromiseTest::share);
        check("promise 16", PromiseTest::mortgage);
        check("promise 17", PromiseTest::cautions);
        check("promise 18", PromiseTest::origin);
        check("promise 19", PromiseTest::holding);
        check("promise 20", PromiseTest::owed);
        check("promise 21", PromiseTest::state);
        end("all promises are kept");
    }
}
