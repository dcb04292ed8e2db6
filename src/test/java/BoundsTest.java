import java.util.ArrayList;
import java.util.List;
import java.util.function.Supplier;

/**
 * Every argument of every method: the last value that is allowed and the first that is not, on
 * both sides, and the least and the greatest int. It is done on a new register, on one in the
 * middle of its life and on a full one of day 60; after a refused call all answers of the
 * register are as they were before it.
 */
public final class BoundsTest extends Checks {
    private static final int LEAST = Integer.MIN_VALUE;
    private static final int GREATEST = Integer.MAX_VALUE;
    private static final int UNITS = 1000000000;
    private static final int PARTS = 1000000;
    /** With the calls that make the register and a few more these stay below MOST_CALLS. */
    private static final int QUESTIONS_AT_ONCE = 300;

    /** A call in which all arguments are right but one, which is given. */
    private interface Varied {
        long make(LandRegister r, int value);
    }

    private interface Question {
        long ask(LandRegister r);
    }

    private record Start(String name, int today, int filed, Supplier<LandRegister> maker) { }

    private static final List<Question> QUESTIONS = questions();
    private static Start start;
    private static List<String> answersBefore;

    private static LandRegister middling() {
        LandRegister r = onDay(2);
        r.found(1, 100, 0);
        r.sell(2, 0, 0, 1, part(1, 3));
        r.pledge(2, 0, 7, 50);
        r.pledge(2, 0, 6, UNITS);
        r.split(2, 0, 30);
        r.caution(2, 8, 5);
        daysGoBy(r, 3);
        r.merge(5, 8, 9);
        r.lift(3, 8, 5);
        r.found(0, UNITS, 7);
        r.sell(5, 9, 7, 0, part(1, 1));
        r.view(4, 2);
        return r;
    }

    private static LandRegister lastDayAndFull() {
        LandRegister r = new LandRegister();
        for (int d = 0; d < 37; d++) {
            r.found(d, 2, d % 8);
            r.day();
        }
        r.split(36, 0, 1);
        r.pledge(37, 2, 7, 5);
        daysGoBy(r, 23);
        r.caution(50, 2, 0);
        r.view(55, 60);
        return r;
    }

    private static List<Question> questions() {
        List<Question> all = new ArrayList<>();
        for (int n = -1; n <= 41; n++) {
            int i = n;
            all.add(r -> r.parcel(i));
            all.add(r -> r.state(i));
            all.add(r -> r.holding(Math.floorMod(i, 8), Math.floorDiv(i, 8)));
        }
        for (int n = 0; n < 80; n++) {
            int p = n;
            all.add(r -> r.area(p));
            all.add(r -> r.cautions(p));
            all.add(r -> r.origin(p, 0));
            all.add(r -> r.origin(p, 1));
            for (int m = 0; m < 8; m++) {
                int k = m;
                all.add(r -> r.share(p, k));
                all.add(r -> r.mortgage(p, 1 + k / 2, k % 2));
            }
        }
        for (int n = 0; n < 8; n++) {
            int person = n;
            all.add(r -> r.owed(person));
        }
        return all;
    }

    /** The last day that a view may be asked for; that asking ends the view that was there. */
    private static long lastRecordDay(LandRegister r) {
        int day = 0;
        while (day <= 60 && !answer(r, day).equals(ARGUMENT.getSimpleName())) {
            day++;
        }
        return day - 1;
    }

    private static String answer(LandRegister r, int day) {
        return answer(() -> r.view(day, 0));
    }

    /** All that a register tells after the call, asked of as many registers as that takes. */
    private static List<String> answersAfter(Question call) {
        List<String> answers = new ArrayList<>();
        for (int first = 0; first < QUESTIONS.size(); first += QUESTIONS_AT_ONCE) {
            LandRegister r = start.maker.get();
            answer(() -> call.ask(r));
            int last = Math.min(QUESTIONS.size(), first + QUESTIONS_AT_ONCE);
            for (Question q : QUESTIONS.subList(first, last)) {
                answers.add(answer(() -> q.ask(r)));
            }
            answers.add("day " + answer(() -> lastRecordDay(r)));
            answers.add("next deed " + answer(() -> r.found(0, 1, 0)));
        }
        return answers;
    }

    private static void refusedWithoutTrace(String what, Class<?> due, Question call) {
        LandRegister r = start.maker.get();
        String name = what + " (" + start.name + ")";
        refused(name, due, () -> call.ask(r));
        due(name + ": another answer after it", answersAfter(call).equals(answersBefore), true);
    }

    private static void outside(String what, Class<?> due, int low, int high, Varied call) {
        List<Integer> values = new ArrayList<>(List.of(LEAST, GREATEST));
        values.add(low - 1);
        values.add(high + 1);
        for (int value : values) {
            refusedWithoutTrace(what + " = " + value, due, r -> call.make(r, value));
        }
    }

    /** An argument of a method that files a deed. */
    private static void ofDeed(String what, int low, int high, Varied call) {
        outside(what, ARGUMENT, low, high, call);
        for (int value : new int[] {low, high}) {
            inDeed(what, value, call);
        }
    }

    private static void inDeed(String what, int value, Varied call) {
        if (start.filed == 40) {
            refusedWithoutTrace(what + " = " + value, STATE, r -> call.make(r, value));
        } else {
            LandRegister r = start.maker.get();
            due(what + " = " + value, answer(() -> call.make(r, value)), Integer.toString(start.filed));
            due(what + " = " + value + ": the next number", r.found(0, 1, 0), start.filed + 1);
        }
    }

    /** An argument of a method that answers a question. */
    private static void ofQuestion(String what, int low, int high, Varied call) {
        outside(what, ARGUMENT, low, high, call);
        for (int value : new int[] {low, high}) {
            answered(what, value, call);
        }
    }

    private static void answered(String what, int value, Varied call) {
        LandRegister r = start.maker.get();
        String got = answer(() -> call.make(r, value));
        due(what + " = " + value + " is answered", got.endsWith("Exception"), false);
    }

    /** An argument for which no value is refused. */
    private static void free(String what, int none, Varied call) {
        LandRegister r = start.maker.get();
        for (int value : new int[] {LEAST, -1, GREATEST}) {
            due(what + " = " + value, answer(() -> call.make(r, value)), Integer.toString(none));
        }
    }

    private static void foundAndShares() {
        int today = start.today;
        ofDeed("found: fact", 0, today, (r, v) -> r.found(v, 1, 0));
        ofDeed("found: area", 1, UNITS, (r, v) -> r.found(0, v, 0));
        ofDeed("found: owner", 0, 7, (r, v) -> r.found(0, 1, v));
        ofDeed("sell: fact", 0, today, (r, v) -> r.sell(v, 0, 0, 1, part(1, 2)));
        ofDeed("sell: parcel", 0, 79, (r, v) -> r.sell(0, v, 0, 1, part(1, 2)));
        ofDeed("sell: from", 0, 7, (r, v) -> r.sell(0, 0, v, 3, part(1, 2)));
        ofDeed("sell: to", 0, 7, (r, v) -> r.sell(0, 0, 3, v, part(1, 2)));
        ofDeed("sell: denominator of 1", 1, PARTS, (r, v) -> r.sell(0, 0, 0, 1, part(1, v)));
        ofDeed("sell: numerator over 1", 1, 1, (r, v) -> r.sell(0, 0, 0, 1, part(v, 1)));
        ofDeed("sell: numerator over 7", 1, 7, (r, v) -> r.sell(0, 0, 0, 1, part(v, 7)));
        ofDeed("sell: numerator over 1000000", 1, PARTS, (r, v) -> r.sell(0, 0, 0, 1, part(v, PARTS)));
    }

    private static void fractions() {
        long[] wrong = {0, 1, -1, PARTS, Long.MIN_VALUE, Long.MIN_VALUE + 1, Long.MAX_VALUE, 1L << 32,
            part(-1, -1), part(LEAST, 1), part(GREATEST, 1), part(LEAST, LEAST), part(GREATEST, GREATEST),
            part(PARTS + 1, PARTS + 1), part(PARTS + 1, PARTS), part(1, LEAST + 1), part(0, PARTS)};
        for (long fraction : wrong) {
            refusedWithoutTrace("sell: fraction " + fraction, ARGUMENT, r -> r.sell(0, 0, 0, 1, fraction));
        }
    }

    private static void mortgages() {
        int today = start.today;
        ofDeed("pledge: fact", 0, today, (r, v) -> r.pledge(v, 0, 0, 1));
        ofDeed("pledge: parcel", 0, 79, (r, v) -> r.pledge(0, v, 0, 1));
        ofDeed("pledge: creditor", 0, 7, (r, v) -> r.pledge(0, 0, v, 1));
        ofDeed("pledge: amount", 1, UNITS, (r, v) -> r.pledge(0, 0, 0, v));
        ofDeed("rerank: fact", 0, today, (r, v) -> r.rerank(v, 0, 1, 2, 0));
        ofDeed("rerank: parcel", 0, 79, (r, v) -> r.rerank(0, v, 1, 2, 0));
        ofDeed("rerank: from", 1, 4, (r, v) -> r.rerank(0, 0, v, 2, 0));
        ofDeed("rerank: to", 1, 4, (r, v) -> r.rerank(0, 0, 2, v, 0));
        for (int consents : new int[] {LEAST, -1, 0, 255, 256, GREATEST}) {
            inDeed("rerank: consents", consents, (r, v) -> r.rerank(0, 0, 1, 2, v));
        }
        ofDeed("release: fact", 0, today, (r, v) -> r.release(v, 0, 1));
        ofDeed("release: parcel", 0, 79, (r, v) -> r.release(0, v, 1));
        ofDeed("release: rank", 1, 4, (r, v) -> r.release(0, 0, v));
    }

    private static void cautionsAndParts() {
        int today = start.today;
        ofDeed("caution: fact", 0, today, (r, v) -> r.caution(v, 0, 0));
        ofDeed("caution: parcel", 0, 79, (r, v) -> r.caution(0, v, 0));
        ofDeed("caution: person", 0, 7, (r, v) -> r.caution(0, 0, v));
        ofDeed("lift: fact", 0, today, (r, v) -> r.lift(v, 0, 0));
        ofDeed("lift: parcel", 0, 79, (r, v) -> r.lift(0, v, 0));
        ofDeed("lift: person", 0, 7, (r, v) -> r.lift(0, 0, v));
        ofDeed("split: fact", 0, today, (r, v) -> r.split(v, 0, 1));
        ofDeed("split: parcel", 0, 79, (r, v) -> r.split(0, v, 1));
        ofDeed("split: area", 1, UNITS, (r, v) -> r.split(0, 0, v));
        ofDeed("merge: fact", 0, today, (r, v) -> r.merge(v, 0, 2));
        ofDeed("merge: a", 0, 79, (r, v) -> r.merge(0, v, 40));
        ofDeed("merge: b", 0, 79, (r, v) -> r.merge(0, 40, v));
    }

    private static void theSame() {
        for (int n = 0; n < 8; n++) {
            int person = n;
            refusedWithoutTrace("sell: to oneself", ARGUMENT, r -> r.sell(0, 0, person, person, part(1, 2)));
        }
        for (int n = 1; n <= 4; n++) {
            int rank = n;
            refusedWithoutTrace("rerank: same rank", ARGUMENT, r -> r.rerank(0, 0, rank, rank, -1));
        }
        for (int n : new int[] {0, 1, 2, 78, 79}) {
            int p = n;
            refusedWithoutTrace("merge: with itself", ARGUMENT, r -> r.merge(0, p, p));
        }
        refusedWithoutTrace("sell: all is wrong", ARGUMENT, r -> r.sell(-1, 80, 8, 8, 0));
        refusedWithoutTrace("rerank: all is wrong", ARGUMENT, r -> r.rerank(61, -1, 0, 0, 0));
        refusedWithoutTrace("merge: all is wrong", ARGUMENT, r -> r.merge(61, -1, -1));
    }

    private static void days() {
        if (start.today == 60) {
            refusedWithoutTrace("day()", STATE, r -> r.day());
        } else {
            due("day()", start.maker.get().day(), start.today + 1);
        }
        ofQuestion("view: rec", 0, start.today, (r, v) -> r.view(v, 0));
        ofQuestion("view: fact", 0, 60, (r, v) -> r.view(0, v));
        ofQuestion("view: fact, with rec = today", 0, 60, (r, v) -> r.view(start.today, v));
        refusedWithoutTrace("view: both are wrong", ARGUMENT, r -> r.view(61, 61));
    }

    private static void looks() {
        ofQuestion("area: parcel", 0, 79, (r, v) -> r.area(v));
        ofQuestion("share: parcel", 0, 79, (r, v) -> r.share(v, 0));
        ofQuestion("share: person", 0, 7, (r, v) -> r.share(0, v));
        refusedWithoutTrace("share: both are wrong", ARGUMENT, r -> r.share(80, 8));
        ofQuestion("mortgage: parcel", 0, 79, (r, v) -> r.mortgage(v, 1, 0));
        ofQuestion("mortgage: parcel, no such rank", 0, 79, (r, v) -> r.mortgage(v, 0, 0));
        ofQuestion("mortgage: parcel, another what", 0, 79, (r, v) -> r.mortgage(v, 1, 2));
        ofQuestion("cautions: parcel", 0, 79, (r, v) -> r.cautions(v));
        ofQuestion("origin: parcel", 0, 79, (r, v) -> r.origin(v, 0));
        ofQuestion("origin: parcel, no such i", 0, 79, (r, v) -> r.origin(v, 2));
        ofQuestion("holding: person", 0, 7, (r, v) -> r.holding(v, 0));
        ofQuestion("holding: person, no such i", 0, 7, (r, v) -> r.holding(v, -1));
        ofQuestion("owed: person", 0, 7, (r, v) -> r.owed(v));
        outside("state", INDEX, 0, start.filed - 1, (r, v) -> r.state(v));
        if (start.filed > 0) {
            answered("state", 0, (r, v) -> r.state(v));
            answered("state", start.filed - 1, (r, v) -> r.state(v));
        }
    }

    private static void freeArguments() {
        free("parcel: i", NONE, (r, v) -> r.parcel(v));
        free("mortgage: rank", NONE, (r, v) -> r.mortgage(2, v, 0));
        free("mortgage: what", NONE, (r, v) -> r.mortgage(2, 1, v));
        free("origin: i", NONE, (r, v) -> r.origin(8, v));
        free("holding: i", NONE, (r, v) -> r.holding(0, v));
    }

    private static void allArguments() {
        foundAndShares();
        fractions();
        mortgages();
        cautionsAndParts();
        theSame();
        days();
        looks();
        freeArguments();
    }

    public static void main(String[] args) {
        Start[] starts = {
            new Start("new", 0, 0, LandRegister::new),
            new Start("middling", 5, 10, BoundsTest::middling),
            new Start("day 60 and full", 60, 40, BoundsTest::lastDayAndFull),
        };
        for (Start each : starts) {
            start = each;
            answersBefore = answersAfter(r -> 0);
            check("arguments", BoundsTest::allArguments);
        }
        end("every argument is refused and allowed as due");
    }
}
