import java.util.ArrayList;
import java.util.Arrays;
import java.util.List;
import java.util.function.Consumer;
import java.util.function.ToLongFunction;

/**
 * Twins: two objects by the same calls, of which one is asked once more. A refused call changes STATUS alone, by its
 * reason alone; a call that only asks changes nothing. What an object holds is drawn out of it to the last: its years
 * gone by to the end, undone one by one, THE TEXT as it is read, both IMAGES.
 */
public final class RefusalsTest {
    private static final int BAD = 0;
    private static final int NO = 1;
    private static final int FULL = 2;
    private static final int NOTHING = 3;
    private static final int[] NONE_WRONG = {};

    private static int wrong = 0;
    private static int asked = 0;

    private interface Call {
        long on(NobodyTwice x, int[] a);
    }

    private record State(String name, Consumer<NobodyTwice> built) {
        NobodyTwice made() {
            NobodyTwice x = new NobodyTwice();
            built.accept(x);
            return x;
        }

        State and(String more, Consumer<NobodyTwice> calls) {
            return new State(name + ", " + more, built.andThen(calls));
        }
    }

    /** What a number may be, in an object as it is. */
    private record Range(ToLongFunction<NobodyTwice> least, ToLongFunction<NobodyTwice> most) { }

    private record Spec(String name, Call call, long whenBad, Range... ranges) { }

    private static final Range YEAR = fixed(0, 7);
    private static final Range TO_COME = new Range(x -> x.count(1), x -> 7);
    private static final Range SORT = fixed(0, 2);
    private static final Range WORTH = fixed(1, 30);
    private static final Range ONE = new Range(x -> 0, x -> x.count(0) - 1);
    private static final Range KIND = fixed(0, 5);
    private static final Range ART = fixed(0, 9);
    private static final Range EITHER = fixed(0, 1);
    private static final Range ANY_K = fixed(-1, Integer.MAX_VALUE);

    private static final List<Spec> CHANGING = List.of(
        new Spec("prize", (x, a) -> x.prize(a[0], a[1], a[2]), -2, YEAR, SORT, WORTH),
        new Spec("one", (x, a) -> x.one(a[0], a[1], a[2], a[3]), -2, KIND, ART, ART, ART),
        new Spec("type", (x, a) -> x.type(a[0]), -2, fixed(0, 127)),
        new Spec("note", (x, a) -> x.note(a[0], a[1], a[2], a[3]), -2, ONE, WORTH, YEAR, EITHER),
        new Spec("beaten", (x, a) -> x.beaten(a[0], a[1], a[2], a[3]), -2, ONE, ONE, SORT, YEAR),
        new Spec("forget", (x, a) -> x.forget(a[0]), -2, EITHER),
        new Spec("odds", (x, a) -> x.odds(a[0], a[1]), -2, ONE, TO_COME),
        new Spec("image", (x, a) -> x.image(a[0]), -2, EITHER),
        new Spec("from", (x, a) -> x.from(a[0]), -2, EITHER));

    private static final List<Spec> ASKING = List.of(
        new Spec("of", (x, a) -> x.of(a[0], a[1]), -2, ONE, fixed(0, 6)),
        new Spec("about", (x, a) -> x.about(a[0], a[1]), -10, YEAR, EITHER),
        new Spec("good", (x, a) -> x.good(a[0], a[1], a[2]), -2, ONE, SORT, YEAR),
        new Spec("enter", (x, a) -> x.enter(a[0]), -2, TO_COME),
        new Spec("winner", (x, a) -> x.winner(a[0], a[1]), -2, TO_COME, EITHER),
        new Spec("end", (x, a) -> x.end(a[0], a[1]), -2, ONE, EITHER),
        new Spec("best", (x, a) -> x.best(a[0], a[1]), -2, ONE, EITHER),
        new Spec("rivals", (x, a) -> x.rivals(a[0], a[1], a[2]), -10, ONE, ONE, ANY_K),
        new Spec("handicap", (x, a) -> x.handicap(a[0]), -2, ONE),
        new Spec("order", (x, a) -> x.order(a[0]), -2, ONE),
        new Spec("is", (x, a) -> x.is(a[0]), -2, ONE),
        new Spec("offer", (x, a) -> x.offer(a[0]), -2, ONE),
        new Spec("may", (x, a) -> x.may(a[0], a[1]), -2, ONE, SORT),
        new Spec("valleys", (x, a) -> x.valleys(a[0], a[1]), -2, fixed(0, 999999), fixed(0, 60)),
        new Spec("part", (x, a) -> x.part(a[0]), -2, EITHER),
        new Spec("status", (x, a) -> x.status(a[0]), -1, fixed(0, 2)),
        new Spec("count", (x, a) -> x.count(a[0]), -2, fixed(0, 7)));

    private static final List<Spec> ASKING_WITHOUT_NUMBERS = List.of(
        new Spec("left", (x, a) -> x.left(), 0),
        new Spec("clash", (x, a) -> x.clash(), 0),
        new Spec("digest", (x, a) -> x.digest(), 0));

    private static final List<State> STATES = List.of(
        new State("a new object", x -> { }),
        new State("prizes and nobody", RefusalsTest::prizesAndNobody),
        new State("two, years gone by", RefusalsTest::twoOnTheWay),
        new State("all is full", RefusalsTest::allFull),
        new State("all are over", RefusalsTest::allOver),
        new State("read, from an image", RefusalsTest::readAndFromImage));

    public static void main(String[] args) {
        for (State state : STATES) {
            for (Spec spec : CHANGING) {
                eachWrongNumber(state, spec);
            }
            for (Spec spec : ASKING) {
                eachWrongNumber(state, spec);
                eachEdge(state, spec);
            }
            for (Spec spec : ASKING_WITHOUT_NUMBERS) {
                twins(state, spec.name + "()", x -> spec.call.on(x, NONE_WRONG), NOTHING, null);
            }
        }
        alikeOnes();
        refusedAsNo();
        refusedAsFull();
        badGoesAhead();
        faults();
        System.out.println(wrong == 0 ? asked + " calls changed no more than they may" : wrong + " calls changed more");
        if (wrong != 0) {
            System.exit(1);
        }
    }

    private static Range fixed(int least, int most) {
        return new Range(x -> least, x -> most);
    }

    private static void text(NobodyTwice x, String text) {
        x.clear();
        for (char c : text.toCharArray()) {
            x.type(c);
        }
    }

    private static void prizesAndNobody(NobodyTwice x) {
        x.prize(0, 0, 1);
        x.prize(7, 2, 30);
        x.year();
        text(x, "valley;one 0 1 1 1;");
    }

    private static void twoOnTheWay(NobodyTwice x) {
        x.one(2, 5, 6, 7);
        x.one(0, 4, 6, 8);
        for (int y = 0; y < 8; y++) {
            x.prize(y, y % 3, 10 + y);
        }
        x.image(1);
        x.year();
        x.year();
        x.note(1, 14, 2, 0);
        x.beaten(1, 0, 2, 3);
        x.odds(0, 2);
        x.image(0);
        x.year();
        text(x, "valley;prize 1 1 1;");
    }

    private static void allFull(NobodyTwice x) {
        for (int p = 0; p < 6; p++) {
            x.one(p, 9 - p, p, 3);
        }
        for (int y = 0; y < 8; y++) {
            x.prize(y, y % 3, 1 + 4 * y);
        }
        x.odds(0, 0);
        x.image(0);
        x.year();
        x.year();
        x.year();
        for (int i = 0; i < 6; i++) {
            x.note(i, 5 * i + 1, i, i % 2);
            x.beaten(i, (i + 1) % 6, i % 3, i);
        }
        x.image(1);
        text(x, "valley;" + "one 0 1 2 3;".repeat(6) + "prize 0 0 1;".repeat(5) + "           ");
    }

    private static void allOver(NobodyTwice x) {
        x.one(3, 1, 2, 3);
        x.one(4, 1, 2, 3);
        x.one(5, 4, 5, 6);
        for (int y = 0; y < 8; y++) {
            x.prize(y, y % 3, 30 - y);
        }
        x.odds(2, 0);
        for (int y = 0; y < 8; y++) {
            x.year();
        }
        x.note(2, 30, 7, 1);
        x.beaten(2, 1, 0, 7);
        text(x, "valley;prize");
    }

    private static void readAndFromImage(NobodyTwice x) {
        text(x, "valley;one 1 1 2 3;one 2 6 6 6;prize 3 0 15;prize 2 1 2;");
        x.read();
        x.year();
        x.year();
        x.year();
        x.image(0);
        x.valley();
        x.from(0);
        x.year();
    }

    /** All that an object can still tell, STATUS apart. */
    private static List<Long> drawnOut(NobodyTwice x) {
        List<Long> told = new ArrayList<>();
        told.add(x.digest());
        for (int p = 0; p < x.count(0); p++) {
            told.add((long) x.handicap(p));
        }
        for (int y = x.count(1); y < 8; y++) {
            told.add((long) x.enter(y));
        }
        for (int i = 0; i <= 8; i++) {
            told.add((long) x.year());
            told.add(x.digest());
        }
        undoneToTheLast(x, told);
        told.add((long) x.read());
        told.add(x.digest());
        for (int i = 0; i < 2; i++) {
            told.add((long) x.from(i));
            told.add(x.digest());
            undoneToTheLast(x, told);
        }
        return told;
    }

    private static void undoneToTheLast(NobodyTwice x, List<Long> told) {
        for (int i = 0; i <= 8; i++) {
            told.add((long) x.undo());
            told.add(x.digest());
        }
    }

    /** due: the answer, or null where it is not looked at. */
    private static void twins(State state, String call, ToLongFunction<NobodyTwice> f, int reason, Long due) {
        asked++;
        NobodyTwice left = state.made();
        NobodyTwice asks = state.made();
        long got = f.applyAsLong(asks);
        if (due != null && got != due) {
            fails(state, call, "answered " + got + ", due is " + due);
        }
        for (int i = 0; i < 3; i++) {
            int want = left.status(i) + (i == reason ? 1 : 0);
            int has = asks.status(i);
            if (has != want) {
                fails(state, call, "status(" + i + ") is " + has + ", due is " + want);
            }
        }
        if (!drawnOut(left).equals(drawnOut(asks))) {
            fails(state, call, "changed more than STATUS");
        }
    }

    private static void fails(State state, String call, String how) {
        wrong++;
        System.out.println(state.name + ": " + call + ": " + how);
    }

    /** Numbers that stand: the least ones, two unlike ones where two are asked for; null: there are none. */
    private static int[] standing(Spec spec, NobodyTwice x) {
        int[] a = new int[spec.ranges.length];
        for (int i = 0; i < a.length; i++) {
            int most = (int) spec.ranges[i].most.applyAsLong(x);
            a[i] = (int) spec.ranges[i].least.applyAsLong(x);
            if (i == 1 && spec.ranges[0] == ONE && spec.ranges[1] == ONE) {
                a[i] = 1;
            }
            if (a[i] > most) {
                return null;
            }
        }
        return a;
    }

    private static void eachWrongNumber(State state, Spec spec) {
        NobodyTwice x = state.made();
        int[] stands = standing(spec, x);
        if (stands == null) {
            // no numbers stand at all, so that any are wrong
            wrongNumbers(state, spec, new int[spec.ranges.length]);
            stands = new int[spec.ranges.length];
        }
        for (int i = 0; i < stands.length; i++) {
            int least = (int) spec.ranges[i].least.applyAsLong(x);
            int most = (int) spec.ranges[i].most.applyAsLong(x);
            for (int w : new int[] {least - 1, most + 1, Integer.MIN_VALUE, Integer.MAX_VALUE}) {
                if (w >= least && w <= most) {
                    continue;
                }
                int[] a = stands.clone();
                a[i] = w;
                wrongNumbers(state, spec, a);
            }
        }
        int[] allWrong = stands.clone();
        Arrays.fill(allWrong, Integer.MIN_VALUE);
        wrongNumbers(state, spec, allWrong);
    }

    private static void wrongNumbers(State state, Spec spec, int[] a) {
        twins(state, spec.name + Arrays.toString(a), x -> spec.call.on(x, a), BAD, spec.whenBad);
    }

    private static void eachEdge(State state, Spec spec) {
        NobodyTwice x = state.made();
        int[] stands = standing(spec, x);
        if (stands == null) {
            return;
        }
        for (int i = 0; i < stands.length; i++) {
            int[] a = stands.clone();
            a[i] = (int) spec.ranges[i].most.applyAsLong(x);
            if (i == 0 && a.length > 1 && spec.ranges[1] == ONE) {
                a[1] = 0;
            }
            twins(state, spec.name + Arrays.toString(a), o -> spec.call.on(o, a), NOTHING, null);
        }
        twins(state, spec.name + Arrays.toString(stands), o -> spec.call.on(o, stands), NOTHING, null);
    }

    private static void alikeOnes() {
        State two = STATES.get(2);
        for (int p = 0; p < 2; p++) {
            int one = p;
            twins(two, "beaten, alike", x -> x.beaten(one, one, 0, 0), BAD, -2L);
            twins(two, "rivals, alike", x -> x.rivals(one, one, -1), BAD, -10L);
            twins(two, "rivals, alike", x -> x.rivals(one, one, 0), BAD, -10L);
        }
    }

    private static void refusedAsNo() {
        State fresh = STATES.get(0);
        twins(fresh, "undo()", NobodyTwice::undo, NO, -3L);
        twins(fresh, "from(0)", x -> x.from(0), NO, -3L);
        twins(fresh, "from(1)", x -> x.from(1), NO, -3L);
        State over = STATES.get(4);
        twins(over, "year()", NobodyTwice::year, NO, -3L);
        twins(over, "from(1)", x -> x.from(1), NO, -3L);
        twins(STATES.get(5), "from(1)", x -> x.from(1), NO, -3L);
        twins(STATES.get(3).and("a prize", x -> x.prize(0, 0, 1)), "undo()", NobodyTwice::undo, NO, -3L);
        twins(STATES.get(2).and("one", x -> x.one(0, 0, 0, 0)), "undo()", NobodyTwice::undo, NO, -3L);
        twins(STATES.get(3).and("valley()", NobodyTwice::valley), "undo()", NobodyTwice::undo, NO, -3L);
        twins(STATES.get(3).and("read()", NobodyTwice::read), "undo()", NobodyTwice::undo, NO, -3L);
    }

    private static void refusedAsFull() {
        State full = STATES.get(3);
        twins(full, "one", x -> x.one(0, 0, 0, 0), FULL, -4L);
        twins(full, "one", x -> x.one(5, 9, 9, 9), FULL, -4L);
        twins(full, "type(0)", x -> x.type(0), FULL, -4L);
        twins(full, "type(127)", x -> x.type(127), FULL, -4L);
        twins(full, "note", x -> x.note(0, 1, 0, 0), FULL, -4L);
        twins(full, "note", x -> x.note(5, 30, 7, 1), FULL, -4L);
        twins(full, "beaten", x -> x.beaten(0, 5, 0, 0), FULL, -4L);
        twins(full, "beaten", x -> x.beaten(5, 0, 2, 7), FULL, -4L);
    }

    /** Where two reasons stand, the first of BAD, NO, FULL is the one. */
    private static void badGoesAhead() {
        State fresh = STATES.get(0);
        twins(fresh, "from(2), none kept", x -> x.from(2), BAD, -2L);
        twins(fresh, "from(-1), none kept", x -> x.from(-1), BAD, -2L);
        State full = STATES.get(3);
        twins(full, "one(6, ..), full", x -> x.one(6, 0, 0, 0), BAD, -2L);
        twins(full, "one(.., 10), full", x -> x.one(0, 0, 0, 10), BAD, -2L);
        twins(full, "type(128), full", x -> x.type(128), BAD, -2L);
        twins(full, "type(-1), full", x -> x.type(-1), BAD, -2L);
        twins(full, "note(6, ..), full", x -> x.note(6, 1, 0, 0), BAD, -2L);
        twins(full, "note(.., 2), full", x -> x.note(0, 1, 0, 2), BAD, -2L);
        twins(full, "beaten, alike, full", x -> x.beaten(1, 1, 0, 0), BAD, -2L);
        twins(full, "beaten(.., 8), full", x -> x.beaten(0, 1, 0, 8), BAD, -2L);
    }

    /** A FAULT, and a pair that is not there, are answers: not even STATUS is changed by them. */
    private static void faults() {
        twins(STATES.get(0), "read() of nothing", NobodyTwice::read, NOTHING, -10L);
        twins(STATES.get(4), "read() that ends too early", NobodyTwice::read, NOTHING, -22L);
        State seven = STATES.get(3).and("a 7th", x -> text(x, "valley;" + "one 0 1 2 3;".repeat(7)));
        twins(seven, "read() of a 7th", NobodyTwice::read, NOTHING, -89L);
        twins(STATES.get(3), "rivals, k too large", x -> x.rivals(0, 1, 64), NOTHING, -5L);
        twins(STATES.get(4), "rivals behind all", x -> x.rivals(0, 1, 0), NOTHING, -5L);
    }
}
