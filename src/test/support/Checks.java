/** What the tests share: the count of what is not as due, and registers to begin with. */
abstract class Checks {
    static final Class<?> ARGUMENT = IllegalArgumentException.class;
    static final Class<?> STATE = IllegalStateException.class;
    static final Class<?> INDEX = IndexOutOfBoundsException.class;
    static final int NONE = LandRegister.NONE;
    static final int DONE = 0;
    /** An object is used for at most so many calls; what later calls answer is free. */
    static final int MOST_CALLS = 512;
    private static int wrong = 0;
    private static String subject = "";

    interface Call {
        long make();
    }

    /** Names what the checks in the test are about: a promise, or a sentence of the document. */
    static void check(String name, Runnable test) {
        subject = name;
        test.run();
    }

    static void notDue(String what) {
        wrong++;
        System.out.println(subject + ": " + what);
    }

    static void due(String what, Object got, Object want) {
        if (!got.equals(want)) {
            notDue(what + " answered " + got + ", due is " + want);
        }
    }

    static void due(String what, long got, long want) {
        if (got != want) {
            notDue(what + " answered " + got + ", due is " + want);
        }
    }

    static void refused(String what, Class<?> due, Call call) {
        due(what, answer(call), due.getSimpleName());
    }

    /** What the call answers, or the name of what it throws. */
    static String answer(Call call) {
        try {
            return Long.toString(call.make());
        } catch (RuntimeException e) {
            return e.getClass().getSimpleName();
        }
    }

    /** Ends the test, with exit code 1 if anything was not as due. */
    static void end(String allIsWell) {
        System.out.println(wrong == 0 ? allIsWell : wrong + " answers are not as due");
        if (wrong != 0) {
            System.exit(1);
        }
    }

    static long part(long numerator, long denominator) {
        return numerator << 32 | denominator & 0xFFFFFFFFL;
    }

    static void daysGoBy(LandRegister r, int days) {
        for (int d = 0; d < days; d++) {
            r.day();
        }
    }

    static LandRegister onDay(int day) {
        LandRegister r = new LandRegister();
        daysGoBy(r, day);
        return r;
    }

    /** Parcel 0, of area 100, is person 0's. */
    static LandRegister withParcel() {
        LandRegister r = new LandRegister();
        r.found(0, 100, 0);
        return r;
    }

    /** Parcel 0 with mortgages of the given creditors; the amounts are 10, 20, 30, 40 by rank. */
    static LandRegister withMortgages(int... creditors) {
        LandRegister r = withParcel();
        for (int m = 0; m < creditors.length; m++) {
            r.pledge(0, 0, creditors[m], 10 * (m + 1));
        }
        return r;
    }

    /** 40 deeds, each of which founds a parcel of person 0. */
    static LandRegister full() {
        LandRegister r = new LandRegister();
        for (int d = 0; d < 40; d++) {
            due("found no. " + d, r.found(0, 1, 0), d);
        }
        return r;
    }

    static void amountsAre(LandRegister r, int parcel, int... amounts) {
        for (int rank = 1; rank <= 4; rank++) {
            int want = rank <= amounts.length ? amounts[rank - 1] : NONE;
            due("amount of rank " + rank, r.mortgage(parcel, rank, 1), want);
        }
    }

    static void creditorsAre(LandRegister r, int parcel, int... creditors) {
        for (int rank = 1; rank <= 4; rank++) {
            int want = rank <= creditors.length ? creditors[rank - 1] : NONE;
            due("creditor of rank " + rank, r.mortgage(parcel, rank, 0), want);
        }
    }

    static void livingAre(LandRegister r, int... parcels) {
        for (int i = 0; i < parcels.length; i++) {
            due("parcel(" + i + ")", r.parcel(i), parcels[i]);
        }
        due("parcel(" + parcels.length + ")", r.parcel(parcels.length), NONE);
    }
}
