/** Promises 7 to 10: pushes, objections, cells made even, all of it undone. */
public final class DeedsTest {
    private static final int UP = 0, RIGHT = 1, DOWN = 2, LEFT = 3;

    private DeedsTest() {
    }

    public static void main(String[] args) {
        theFourWays();
        leanAndLeaning();
        tipsAtTheLimit();
        whoIsToPushBehindAVerdict();
        rutsStayInTheirBounds();
        refusedPushes();
        objections();
        verdictsEndObjections();
        evened();
        undone();
        leanUndone();
        tenAreKnown();
        refusedIsNotUndone();
        Due.end();
    }

    private static void theFourWays() {
        TippedBarrow b = Due.told("w3;r4 4 4;r4 4 4;r4 4 4;b1 1;");
        int[] ways = {UP, LEFT, DOWN, DOWN, RIGHT, RIGHT, UP, UP};
        int[] cells = {1, 0, 5, 10, 11, 12, 7, 2};
        for (int i = 0; i < ways.length; i++) {
            Due.is("pushes " + i, b.pushes(ways[i]), 0);
            Due.is("cell behind push " + i, b.now(0), cells[i]);
            Due.is("to push behind push " + i, b.now(2), (i + 1) % 2);
        }
    }

    private static void leanAndLeaning() {
        TippedBarrow b = Due.told("w3;r4 6 3;b0 0;k9;j3;");
        Due.is("pushes(1)", b.pushes(RIGHT), 0);
        Due.is("tilt 2, leaning 1", b.now(1), 3);
        Due.is("pushes(1) on", b.pushes(RIGHT), 0);
        Due.is("tilt -1, leaning 1", b.now(1), 3);
        Due.is("pushes(3) back", b.pushes(LEFT), 0);
        Due.is("lean adds up", b.now(1), 6);
        Due.is("no rut without a verdict", b.tilt(1, 0), 2);
        TippedBarrow left = Due.told("w2;r4 4;b0 0;k9;j0;");
        left.pushes(RIGHT);
        Due.is("leaning -2", left.now(1), -2);
    }

    private static void tipsAtTheLimit() {
        TippedBarrow b = Due.told("w2;r4 7;b0 0;k3;");
        Due.is("lean 3 at limit 3", b.pushes(RIGHT), 2);
        b = Due.told("w2;r4 6;b0 0;k3;");
        Due.is("lean 2 at limit 3", b.pushes(RIGHT), 0);
        b = Due.told("w2;r4 1;b0 0;k3;");
        Due.is("lean -3 at limit 3", b.pushes(RIGHT), 1);
        b = Due.told("w2;r4 2;b0 0;k3;");
        Due.is("lean -2 at limit 3", b.pushes(RIGHT), 0);
        b = Due.told("w2;r8 8;b0 0;");
        Due.is("lean 4 at limit 5, which is not told", b.pushes(RIGHT), 0);
        Due.is("lean 8 at limit 5, on START", b.pushes(LEFT), 2);
        Due.is("the cell that it tipped on", b.tilt(0, 0), 4);
        Due.is("the barrow is on START", b.now(0), 0);
        b = Due.told("w2;r8 8;b0 0;k9;j4;");
        Due.is("lean 6 at limit 9", b.pushes(RIGHT), 0);
        Due.is("lean 12 at limit 9", b.pushes(LEFT), 2);
    }

    private static void whoIsToPushBehindAVerdict() {
        for (int objections = 0; objections < 2; objections++) {
            for (int side = 1; side <= 2; side++) {
                TippedBarrow b = Due.told(side == 1 ? "w3;r4 4 2;b1 0;k2;" : "w3;r4 4 6;b1 0;k2;");
                for (int i = 0; i < objections; i++) {
                    b.objects();
                }
                String run = objections + " objections, side " + side + ": ";
                Due.is(run + "pushes", b.pushes(RIGHT), side);
                Due.is(run + "the one who lost is to push", b.now(2), side == 1 ? 1 : 0);
                Due.is(run + "on START", b.now(0), 1);
                Due.is(run + "LEAN", b.now(1), 0);
                Due.is(run + "verdicts to the left", b.now(3), side == 1 ? 1 : 0);
                Due.is(run + "verdicts to the right", b.now(4), side == 2 ? 1 : 0);
                Due.is(run + "the rut", b.tilt(2, 0), side == 1 ? -3 : 3);
                Due.is(run + "no rut on START", b.tilt(1, 0), 0);
            }
        }
    }

    private static void rutsStayInTheirBounds() {
        TippedBarrow b = Due.told("w3;r1 4 7;b1 0;k2;");
        for (int i = 0; i < 3; i++) {
            Due.is("to the right " + i, b.pushes(RIGHT), 2);
            Due.is("the right rut " + i, b.tilt(2, 0), 4);
            Due.is("to the left " + i, b.pushes(LEFT), 1);
            Due.is("the left rut " + i, b.tilt(0, 0), -4);
        }
        Due.is("three to the left", b.now(3), 3);
        Due.is("three to the right", b.now(4), 3);
    }

    private static void refusedPushes() {
        TippedBarrow b = new TippedBarrow();
        Due.is("BAD ahead of STATE", b.pushes(4), TippedBarrow.BAD);
        Due.is("no START", b.pushes(0), TippedBarrow.STATE);
        b = Due.told("w2;r4 4;");
        Due.is("cells, but no START", b.pushes(1), TippedBarrow.STATE);
        b = Due.told("w3;r4 4 x;r4 4 4;b1 0;");
        Due.is("pushes(-1)", b.pushes(-1), TippedBarrow.BAD);
        Due.is("pushes(MAX)", b.pushes(Integer.MAX_VALUE), TippedBarrow.BAD);
        Due.is("a brick", b.pushes(RIGHT), TippedBarrow.STATE);
        Due.is("above the yard", b.pushes(UP), TippedBarrow.STATE);
        Due.is("nothing changed", b.now(0), 1);
        Due.is("nobody's turn passed", b.now(2), 0);
        Due.is("nothing to undo", b.now(7), 0);
        b.pushes(DOWN);
        Due.is("below the rows", b.pushes(DOWN), TippedBarrow.STATE);
        b.pushes(RIGHT);
        Due.is("right of WIDE", b.pushes(RIGHT), TippedBarrow.STATE);
        b = Due.told("w5;r4 4 4 4 4;r4 4 4 4 4;r4 4 4 4 4;r4 4 4 4 4;b4 3;");
        Due.is("right of 5", b.pushes(RIGHT), TippedBarrow.STATE);
        Due.is("below 4 rows", b.pushes(DOWN), TippedBarrow.STATE);
        b = Due.told("w5;r4 4 4 4 4;r4 4 4 4 4;b0 1;");
        Due.is("left of 0", b.pushes(LEFT), TippedBarrow.STATE);
    }

    private static void objections() {
        TippedBarrow b = new TippedBarrow();
        Due.is("objects() without START", b.objects(), TippedBarrow.STATE);
        Due.is("nothing to undo", b.now(7), 0);
        b = Due.told("w2;r4 5;b0 0;k9;");
        b.pushes(RIGHT);
        for (int i = 0; i < 6; i++) {
            Due.is("objects() " + i, b.objects(), i % 2);
        }
        Due.is("a fourth of his", b.objects(), TippedBarrow.STATE);
        Due.is("still to push", b.now(2), 1);
        b.pushes(LEFT);
        Due.is("a fourth of the plaintiff", b.objects(), TippedBarrow.STATE);
        Due.is("objections of the plaintiff", b.now(5), 3);
        Due.is("objections of the other", b.now(6), 3);
        Due.is("lean stays", b.now(1), 1);
    }

    private static void verdictsEndObjections() {
        TippedBarrow b = Due.told("w3;r4 4 6;b1 0;k2;");
        for (int i = 0; i < 5; i++) {
            b.objects();
        }
        Due.is("three", b.now(5), 3);
        Due.is("two", b.now(6), 2);
        b.pushes(LEFT);
        Due.is("a push ends none", b.now(5), 3);
        b.pushes(RIGHT);
        Due.is("a push that tips it", b.pushes(RIGHT), 2);
        Due.is("none of the plaintiff", b.now(5), 0);
        Due.is("none of the other", b.now(6), 0);
        Due.is("he may again", b.objects(), 1);
    }

    private static void evened() {
        TippedBarrow b = Due.told("w2;r4 x;r1 2;");
        Due.is("evens without START", b.evens(0, 0, 3), 0);
        Due.is("it is so then", b.tilt(0, 0), 3);
        Due.is("it is so", b.evens(0, 0, 3), TippedBarrow.NO);
        Due.is("a brick", b.evens(1, 0, 3), TippedBarrow.NO);
        Due.is("above 4", b.evens(0, 0, 5), TippedBarrow.NO);
        Due.is("below -4", b.evens(0, 0, -5), TippedBarrow.NO);
        Due.is("no such x", b.evens(2, 0, 0), TippedBarrow.NO);
        Due.is("no such y", b.evens(0, 2, 0), TippedBarrow.NO);
        Due.is("x below 0", b.evens(-1, 1, 0), TippedBarrow.NO);
        Due.is("y below 0", b.evens(0, -1, 0), TippedBarrow.NO);
        Due.is("one deed", b.now(7), 1);
        Due.is("to 4", b.evens(0, 1, 4), -3);
        Due.is("to -4", b.evens(1, 1, -4), -2);
        Due.is("nobody pushed", b.now(2), 0);
        Due.is("undone", b.undo(), 2);
        Due.is("tilt as it was", b.tilt(1, 1), -2);
    }

    private static void undone() {
        TippedBarrow b = Due.told("w3;r4 4 6;b1 0;k2;");
        Due.is("undo() of nothing", b.undo(), TippedBarrow.STATE);
        b.objects();
        b.pushes(LEFT);
        b.pushes(RIGHT);
        Due.is("tips", b.pushes(RIGHT), 2);
        Due.is("undo() of a verdict", b.undo(), 3);
        int[] nows = {1, 0, 1, 0, 0, 1, 0, 3};
        for (int what = 0; what < nows.length; what++) {
            Due.is("undone: now(" + what + ")", b.now(what), nows[what]);
        }
        Due.is("undone: the rut", b.tilt(2, 0), 2);
        Due.is("undo() of a push", b.undo(), 2);
        Due.is("undone: where it is", b.now(0), 0);
        Due.is("undone: who is to push", b.now(2), 0);
        b.undo();
        Due.is("undo() of an objection", b.undo(), 0);
        Due.is("undone: no objection", b.now(5), 0);
        Due.is("undone: the plaintiff's", b.now(2), 0);
        Due.is("undo() is not undone", b.undo(), TippedBarrow.STATE);
    }

    private static void leanUndone() {
        TippedBarrow b = Due.told("w2;r5 7;b0 0;k9;");
        b.pushes(RIGHT);
        b.keep(0);
        b.pushes(LEFT);
        Due.is("lean of two pushes", b.now(1), 4);
        b.undo();
        Due.is("lean of one push", b.now(1), 3);
        b.pushes(LEFT);
        b.pushes(RIGHT);
        b.back(0);
        Due.is("lean of the image", b.now(1), 3);
        Due.is("cell of the image", b.now(0), 1);
    }

    private static void tenAreKnown() {
        TippedBarrow b = Due.told("w2;r4 4;b0 0;k9;");
        for (int i = 0; i < 13; i++) {
            Due.is("deed " + i, b.evens(0, 0, i % 2 + 1), i == 0 ? 0 : 2 - i % 2);
            Due.is("known behind deed " + i, b.now(7), Math.min(10, i + 1));
        }
        for (int i = 9; i >= 0; i--) {
            Due.is("undo", b.undo(), i);
        }
        Due.is("the oldest are lost", b.undo(), TippedBarrow.STATE);
        Due.is("the tilt of deed 2", b.tilt(0, 0), 1);
        b.evens(0, 0, -4);
        Due.is("known anew", b.now(7), 1);
        Due.is("undone anew", b.undo(), 0);
        Due.is("the tilt anew", b.tilt(0, 0), 1);
    }

    private static void refusedIsNotUndone() {
        TippedBarrow b = Due.told("w2;r4 5;b0 0;k9;");
        b.pushes(RIGHT);
        b.pushes(RIGHT);
        b.pushes(9);
        b.evens(0, 0, 0);
        b.evens(0, 0, 7);
        b.keep(0);
        b.tells(1);
        b.would(3);
        b.game(0);
        b.decides();
        Due.is("one deed alone", b.now(7), 1);
        Due.is("it is undone", b.undo(), 0);
        Due.is("on START", b.now(0), 0);
        Due.is("the image stays", b.back(0), 0);
        Due.is("as kept", b.now(0), 1);
        Due.is("WAYS stay told", b.count(5), 1);
    }
}
