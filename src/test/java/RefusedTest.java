import java.util.function.Supplier;
import java.util.function.ToIntFunction;

/**
 * "Refused, and nothing changes, the first of these: BAD, STATE, FULL": for each call that can be
 * refused, what it answers, and that a twin that was never asked answers the same from then on.
 */
public final class RefusedTest {
    private static final int NO = TippedBarrow.NO, BAD = TippedBarrow.BAD, STATE = TippedBarrow.STATE, FULL = TippedBarrow.FULL;
    private static final int UP = 0, RIGHT = 1, DOWN = 2, LEFT = 3;

    private RefusedTest() {
    }

    public static void main(String[] args) {
        bad();
        badNumbers();
        noSuchCell();
        fault();
        full();
        stateOfPushes();
        stateOfObjections();
        stateOfUndo();
        stateOfBack();
        stateWithoutStart();
        itIsSo();
        badAheadOfState();
        badAheadOfFull();
        Due.end();
    }

    /** In the middle of it all: eight TOLD, 120 letters that are wrong, ten to be UNDONE, 3 OBJECTIONS of each. */
    private static TippedBarrow busy() {
        TippedBarrow b = Due.told("w4;r3 4 5 6;r2x4 6;r4 4 3 5;b1 0;k4;j3;");
        Due.pushed(b, RIGHT, RIGHT);
        b.keep(1);
        b.evens(0, 2, -3);
        Due.pushed(b, RIGHT, DOWN);
        for (int i = 0; i < 6; i++) {
            b.objects();
        }
        for (int i = 0; i < 8; i++) {
            b.tells(i % 2 == 0 ? RIGHT : LEFT);
        }
        b.rate(4, 2, 2);
        Due.type(b, " ".repeat(118) + "w6");
        return b;
    }

    private static TippedBarrow withoutStart() {
        TippedBarrow b = Due.told("w3;r4 5 6;r1 x 4;k3;j1;");
        b.evens(0, 0, 2);
        b.keep(0);
        b.evens(0, 0, 3);
        b.tells(RIGHT);
        Due.type(b, "k3;");
        return b;
    }

    private static TippedBarrow fresh() {
        return new TippedBarrow();
    }

    private static void refused(String call, int due, ToIntFunction<TippedBarrow> asks, Supplier<TippedBarrow> made) {
        TippedBarrow asked = made.get();
        Due.is(call, asks.applyAsInt(asked), due);
        Due.is(call + " again", asks.applyAsInt(asked), due);
        Twins.same(call, asked, made.get());
    }

    private static void bad() {
        Due.sentence("Refused, and nothing changes: BAD (a number is not as told)");
        int[] numbers = {-1, 4, Integer.MIN_VALUE, Integer.MAX_VALUE};
        for (int i : numbers) {
            refused("pushes(" + i + ")", BAD, b -> b.pushes(i), RefusedTest::busy);
            refused("would(" + i + ")", BAD, b -> b.would(i), RefusedTest::busy);
            refused("tells(" + i + ")", BAD, b -> b.tells(i), RefusedTest::busy);
            refused("game(" + i + ")", BAD, b -> b.game(i), RefusedTest::busy);
            refused("leanings(" + i + ")", BAD, b -> b.leanings(i), RefusedTest::busy);
            refused("keep(" + i + ")", BAD, b -> b.keep(i), RefusedTest::busy);
            refused("back(" + i + ")", BAD, b -> b.back(i), RefusedTest::busy);
            refused("odds(1, 1, " + i + ")", BAD, b -> b.odds(1, 1, i), RefusedTest::busy);
            refused("odds(" + i + ", 1, 1)", BAD, b -> b.odds(i, 1, 1), RefusedTest::busy);
            refused("soonest(" + i + ", 0)", BAD, b -> b.soonest(i, 0), RefusedTest::busy);
        }
    }

    private static void badNumbers() {
        Due.sentence("Refused, and nothing changes: BAD (there is no such thing)");
        refused("type(-1)", BAD, b -> b.type(-1), RefusedTest::withoutStart);
        refused("type(256)", BAD, b -> b.type(256), RefusedTest::withoutStart);
        refused("game(2)", BAD, b -> b.game(2), RefusedTest::busy);
        refused("keep(2)", BAD, b -> b.keep(2), RefusedTest::busy);
        refused("back(2)", BAD, b -> b.back(2), RefusedTest::busy);
        refused("leanings(3)", BAD, b -> b.leanings(3), RefusedTest::busy);
        refused("soonest(0, 0)", BAD, b -> b.soonest(0, 0), RefusedTest::busy);
        refused("soonest(3, -1)", BAD, b -> b.soonest(3, -1), RefusedTest::busy);
        refused("soonest(1, -2)", BAD, b -> b.soonest(1, -2), RefusedTest::busy);
        refused("odds(0, 1, 0)", BAD, b -> b.odds(0, 1, 0), RefusedTest::busy);
        refused("odds(3, 1, 0)", BAD, b -> b.odds(3, 1, 0), RefusedTest::busy);
        refused("odds(1, -1, 0)", BAD, b -> b.odds(1, -1, 0), RefusedTest::busy);
        refused("odds(1, 5, 0)", BAD, b -> b.odds(1, 5, 0), RefusedTest::busy);
        refused("odds(1, 1, 2)", BAD, b -> b.odds(1, 1, 2), RefusedTest::busy);
        refused("count(-1)", BAD, b -> b.count(-1), RefusedTest::busy);
        refused("count(7)", BAD, b -> b.count(7), RefusedTest::busy);
        refused("now(-1)", NO, b -> b.now(-1), RefusedTest::busy);
        refused("now(8)", NO, b -> b.now(8), RefusedTest::busy);
        refused("rate(-1, 0, 0)", NO, b -> b.rate(-1, 0, 0), RefusedTest::busy);
        refused("rate(6, 0, 0)", NO, b -> b.rate(6, 0, 0), RefusedTest::busy);
        refused("evens(0, 0, 5)", NO, b -> b.evens(0, 0, 5), RefusedTest::busy);
        refused("evens(0, 0, -5)", NO, b -> b.evens(0, 0, -5), RefusedTest::busy);
    }

    private static void noSuchCell() {
        Due.sentence("Refused, and nothing changes: no such CELL, a brick");
        int[][] none = {{1, 1}, {4, 0}, {0, 3}, {-1, 0}, {0, -1}};
        for (int[] cell : none) {
            String at = cell[0] + ", " + cell[1];
            refused("tilt(" + at + ")", NO, b -> b.tilt(cell[0], cell[1]), RefusedTest::busy);
            refused("evens(" + at + ", 1)", NO, b -> b.evens(cell[0], cell[1], 1), RefusedTest::busy);
            refused("rate(5, " + at + ")", NO, b -> b.rate(5, cell[0], cell[1]), RefusedTest::busy);
        }
        refused("a new object: evens(0, 0, 0)", NO, b -> b.evens(0, 0, 0), RefusedTest::fresh);
        refused("a new object: rate(0, 0, 0)", NO, b -> b.rate(0, 0, 0), RefusedTest::fresh);
    }

    private static void fault() {
        Due.sentence("-10 less FAULT: nothing changes (THE TEXT stays, too)");
        refused("yard()", -129, b -> b.yard(), RefusedTest::busy);
        String[] faults = {"w2;r4 4;b0 0;k9;j4;q", "w2;r4 4;b0 0;k9;j4;k9;", "w5;r8 8 8 8 8;r8 8", "w1;r0;b0 0;k2;j0;j"};
        int[] places = {19, 19, 18, 17};
        for (int i = 0; i < faults.length; i++) {
            String text = faults[i];
            TippedBarrow asked = withoutText();
            Due.type(asked, text);
            Due.is("yard() of " + text, asked.yard(), -10 - places[i]);
            TippedBarrow twin = withoutText();
            Due.type(twin, text);
            Twins.same("yard() of " + text, asked, twin);
        }
    }

    private static TippedBarrow withoutText() {
        TippedBarrow b = busy();
        b.clear();
        return b;
    }

    private static void full() {
        Due.sentence("Refused, and nothing changes: FULL");
        refused("type(' ')", FULL, b -> b.type(' '), RefusedTest::busy);
        refused("type(0)", FULL, b -> b.type(0), RefusedTest::busy);
        refused("tells(0)", FULL, b -> b.tells(0), RefusedTest::busy);
        refused("tells(3)", FULL, b -> b.tells(3), RefusedTest::busy);
    }

    private static void stateOfPushes() {
        Due.sentence("Refused, and nothing changes: STATE of pushes(), would()");
        // A brick is to the left of there.
        Due.is("where it is", busy().now(0), 7);
        refused("pushes(3)", STATE, b -> b.pushes(LEFT), RefusedTest::busy);
        refused("would(3)", STATE, b -> b.would(LEFT), RefusedTest::busy);
        refused("pushes(0) from START", STATE, b -> b.pushes(UP), RefusedTest::onStart);
        refused("would(0) from START", STATE, b -> b.would(UP), RefusedTest::onStart);
        refused("pushes(2), a brick", STATE, b -> b.pushes(DOWN), RefusedTest::onStart);
    }

    private static TippedBarrow onStart() {
        TippedBarrow b = Due.told("w4;r3 4 5 6;r2x4 6;r4 4 3 5;b1 0;k4;j3;");
        Due.pushed(b, RIGHT, LEFT);
        b.keep(0);
        b.tells(LEFT);
        return b;
    }

    private static void stateOfObjections() {
        Due.sentence("Refused, and nothing changes: STATE of objects()");
        refused("objects()", STATE, b -> b.objects(), RefusedTest::busy);
        refused("objects() without START", STATE, b -> b.objects(), RefusedTest::withoutStart);
        refused("objects() of a new object", STATE, b -> b.objects(), RefusedTest::fresh);
    }

    private static void stateOfUndo() {
        Due.sentence("Refused, and nothing changes: STATE of undo()");
        refused("undo() behind back()", STATE, b -> b.undo(), RefusedTest::backAgain);
        refused("undo() of a new object", STATE, b -> b.undo(), RefusedTest::fresh);
    }

    private static TippedBarrow backAgain() {
        TippedBarrow b = busy();
        b.back(1);
        return b;
    }

    private static void stateOfBack() {
        Due.sentence("Refused, and nothing changes: STATE of back()");
        refused("back(0)", STATE, b -> b.back(0), RefusedTest::busy);
        refused("back(1)", STATE, b -> b.back(1), RefusedTest::withoutStart);
        refused("back(0) of a new object", STATE, b -> b.back(0), RefusedTest::fresh);
    }

    private static void stateWithoutStart() {
        Due.sentence("Refused, and nothing changes: STATE: no START");
        for (int i = 0; i < 2; i++) {
            Supplier<TippedBarrow> made = i == 0 ? RefusedTest::withoutStart : RefusedTest::fresh;
            refused("pushes(1)", STATE, b -> b.pushes(RIGHT), made);
            refused("would(1)", STATE, b -> b.would(RIGHT), made);
            refused("game(0)", STATE, b -> b.game(0), made);
            refused("game(1)", STATE, b -> b.game(1), made);
            refused("advice()", STATE, b -> b.advice(), made);
            refused("soonest(1, -1)", STATE, b -> b.soonest(1, -1), made);
            refused("soonest(2, 0)", STATE, b -> b.soonest(2, 0), made);
            refused("odds(1, 0, 0)", STATE, b -> b.odds(1, 0, 0), made);
            refused("odds(2, 4, 1)", STATE, b -> b.odds(2, 4, 1), made);
            refused("decides()", STATE, b -> b.decides(), made);
            refused("leanings(0)", STATE, b -> b.leanings(0), made);
            refused("leanings(2)", STATE, b -> b.leanings(2), made);
        }
    }

    private static void itIsSo() {
        Due.sentence("Refused, and nothing changes: evens, it is so");
        refused("evens(0, 2, -3)", NO, b -> b.evens(0, 2, -3), RefusedTest::busy);
        refused("evens(0, 0, 3)", NO, b -> b.evens(0, 0, 3), RefusedTest::withoutStart);
    }

    private static void badAheadOfState() {
        Due.sentence("the first of these: BAD ahead of STATE");
        for (int i = 0; i < 2; i++) {
            Supplier<TippedBarrow> made = i == 0 ? RefusedTest::withoutStart : RefusedTest::fresh;
            refused("pushes(4)", BAD, b -> b.pushes(4), made);
            refused("pushes(-1)", BAD, b -> b.pushes(-1), made);
            refused("would(4)", BAD, b -> b.would(4), made);
            refused("would(-1)", BAD, b -> b.would(-1), made);
            refused("game(2)", BAD, b -> b.game(2), made);
            refused("game(-1)", BAD, b -> b.game(-1), made);
            refused("soonest(0, 0)", BAD, b -> b.soonest(0, 0), made);
            refused("soonest(3, 0)", BAD, b -> b.soonest(3, 0), made);
            refused("soonest(1, -2)", BAD, b -> b.soonest(1, -2), made);
            refused("odds(0, 1, 0)", BAD, b -> b.odds(0, 1, 0), made);
            refused("odds(3, 1, 0)", BAD, b -> b.odds(3, 1, 0), made);
            refused("odds(1, -1, 0)", BAD, b -> b.odds(1, -1, 0), made);
            refused("odds(1, 5, 0)", BAD, b -> b.odds(1, 5, 0), made);
            refused("odds(1, 1, -1)", BAD, b -> b.odds(1, 1, -1), made);
            refused("odds(1, 1, 2)", BAD, b -> b.odds(1, 1, 2), made);
            refused("leanings(3)", BAD, b -> b.leanings(3), made);
            refused("leanings(-1)", BAD, b -> b.leanings(-1), made);
        }
        refused("back(2), where none was kept", BAD, b -> b.back(2), RefusedTest::fresh);
        refused("back(-1), where none was kept", BAD, b -> b.back(-1), RefusedTest::fresh);
    }

    private static void badAheadOfFull() {
        Due.sentence("the first of these: BAD ahead of FULL");
        refused("type(-1) to 120 letters", BAD, b -> b.type(-1), RefusedTest::busy);
        refused("type(256) to 120 letters", BAD, b -> b.type(256), RefusedTest::busy);
        refused("tells(-1) behind 8", BAD, b -> b.tells(-1), RefusedTest::busy);
        refused("tells(4) behind 8", BAD, b -> b.tells(4), RefusedTest::busy);
    }
}
