/** Promises 11 to 16: what would be. */
public final class ForecastTest {
    private static final int NONE = TippedBarrow.NONE;

    private ForecastTest() {
    }

    public static void main(String[] args) {
        would();
        game();
        gameOfOneWhoCannotMove();
        neitherCan();
        soonest();
        odds();
        decides();
        atTheFirstCellWithTheLeastLean();
        theLargestYard();
        refused();
        nothingIsChanged();
        Due.end();
    }

    private static void would() {
        TippedBarrow b = Due.told("w3;r4 6 x;r1 4 6;r4 5 4;b1 1;k2;");
        Due.is("would(0)", b.would(0), 2);
        Due.is("would(1)", b.would(1), 2);
        Due.is("would(2)", b.would(2), 0);
        Due.is("would(3)", b.would(3), 1);
        b.pushes(2);
        Due.is("off the rows", b.would(2), TippedBarrow.STATE);
        b.pushes(1);
        Due.is("off WIDE", b.would(1), TippedBarrow.STATE);
        b.pushes(0);
        b.pushes(2);
        b = Due.told("w2;r4 x;b0 0;");
        Due.is("a brick", b.would(1), TippedBarrow.STATE);
        Due.is("would(-1)", b.would(-1), TippedBarrow.BAD);
        Due.is("would(4)", b.would(4), TippedBarrow.BAD);
        b = new TippedBarrow();
        Due.is("BAD ahead of STATE", b.would(4), TippedBarrow.BAD);
        Due.is("no START", b.would(0), TippedBarrow.STATE);
    }

    private static void game() {
        TippedBarrow b = Due.told("w3;r2 4 2;b1 0;k2;");
        outlook(b, "both ways tip to the left", 1, 1, 1);
        b.objects();
        outlook(b, "the other one loses by any push", 1, 1, 1);
        b = Due.told("w3;r6 4 2;b1 0;k2;");
        outlook(b, "the plaintiff takes the left", 1, 1, 1);
        b.objects();
        outlook(b, "the other one takes the right", 2, 1, 3);
        b = Due.told("w3;r4 4 6;b1 0;k2;");
        outlook(b, "left, and back by the other one, and so on", 0, NONE, 3);
        b.pushes(3);
        b.objects();
        outlook(b, "he must go back, then it tips to the right", 2, 2, 1);
        b.objects();
        outlook(b, "the other one must, and the plaintiff is free", 0, NONE, 1);
    }

    private static void gameOfOneWhoCannotMove() {
        TippedBarrow b = Due.told("w3;rx 4 x;r4 x 4;b1 0;");
        outlook(b, "the plaintiff can't move", 2, 0, NONE);
        Due.is("no way alone", b.soonest(2, -1), NONE);
        b.objects();
        outlook(b, "the other one can't move", 1, 0, NONE);
        Due.is("odds where it stays", b.odds(1, 4, 0), 0);
        Due.is("odds where it stays, lower", b.odds(1, 4, 1), 1);
    }

    private static void neitherCan() {
        TippedBarrow b = Due.told("w3;r4 4 4;b1 0;");
        outlook(b, "level all over", 0, NONE, 1);
        b = Due.told("w3;r4 4 7;r4 4 4;b1 0;k3;");
        Due.is("right would lose at once", b.would(1), 2);
        outlook(b, "the lowest that does not lose", 0, NONE, 2);
    }

    private static void outlook(TippedBarrow b, String what, int winner, int pushes, int way) {
        Due.is(what + ": game(0)", b.game(0), winner);
        Due.is(what + ": game(1)", b.game(1), pushes);
        Due.is(what + ": advice()", b.advice(), way);
    }

    private static void soonest() {
        TippedBarrow b = Due.told("w3;r5 4 3;b1 0;k2;");
        Due.is("to the right", b.soonest(2, -1), 3);
        row(b, 2, new int[] {3, 1, 3});
        Due.is("to the left", b.soonest(1, -1), 3);
        row(b, 1, new int[] {1, 3, 1});
        b.objects();
        Due.is("whoever pushes", b.soonest(1, -1), 3);
        b.pushes(1);
        b.pushes(3);
        Due.is("with LEAN as NOW", b.soonest(1, -1), 1);
        row(b, 1, new int[] {1});
        Due.is("with LEAN as NOW, right", b.soonest(2, -1), 5);
        row(b, 2, new int[] {3, 1, 3, 1, 3});
        b = Due.told("w2;r4 6;r4 6;b0 0;k2;");
        Due.is("of two the first", b.soonest(2, 0), 1);
        b = Due.told("w3;r5 5 5;r5 4 5;r5 5 5;b1 1;k2;");
        Due.is("two pushes", b.soonest(2, -1), 2);
        row(b, 2, new int[] {0, 1});
        Due.is("there is no left", b.soonest(1, -1), NONE);
        Due.is("there is no way to it", b.soonest(1, 0), NONE);
        Due.is("nor any far on", b.soonest(1, Integer.MAX_VALUE), NONE);
        b = Due.told("w3;r4 8 0;b0 0;k4;");
        Due.is("not to the right ahead of it", b.soonest(1, -1), NONE);
    }

    private static void row(TippedBarrow b, int side, int[] ways) {
        for (int k = 0; k < ways.length; k++) {
            Due.is("soonest(" + side + ", " + k + ")", b.soonest(side, k), ways[k]);
        }
        Due.is("soonest(" + side + ", behind the last)", b.soonest(side, ways.length), -5);
        Due.is("soonest(" + side + ", MAX)", b.soonest(side, Integer.MAX_VALUE), -5);
    }

    private static void odds() {
        TippedBarrow b = Due.told("w3;r4 6 4;r2 4 6;r4 4 4;b1 1;k2;");
        fraction(b, 2, 0, 0, 1);
        fraction(b, 1, 0, 0, 1);
        fraction(b, 2, 1, 1, 2);
        fraction(b, 1, 1, 1, 4);
        // Down (1/4), and from there up (1/3) to the even middle, left or right: nothing tips.
        fraction(b, 2, 2, 1, 2);
        // Then the middle (1/12) again, or a corner (2/12) that leads by one of two ways to a tip.
        fraction(b, 2, 3, 7, 12);
        fraction(b, 1, 3, 5, 16);
        b = Due.told("w2;r4 5;b0 0;k2;");
        fraction(b, 2, 2, 0, 1);
        fraction(b, 2, 3, 1, 1);
        fraction(b, 1, 4, 0, 1);
    }

    private static void fraction(TippedBarrow b, int side, int n, int upper, int lower) {
        Due.is("odds(" + side + ", " + n + ", 0)", b.odds(side, n, 0), upper);
        Due.is("odds(" + side + ", " + n + ", 1)", b.odds(side, n, 1), lower);
    }

    private static void decides() {
        Due.is("each alone", Due.told("w3;r4 4 2;b1 0;k2;").decides(), 4);
        Due.is("two, and neither alone", Due.told("w3;r2 4 2;b1 0;k2;").decides(), 0);
        TippedBarrow b = Due.told("w3;rx x x;r6 4 2;rx x x;b1 1;k2;");
        Due.is("the left one, in the second row", b.decides(), 1 << 7);
        b.objects();
        Due.is("the right one", b.decides(), 1 << 5);
        Due.is("even cells decide nothing", Due.told("w3;r4 4 4;b1 0;").decides(), 0);
    }

    private static void atTheFirstCellWithTheLeastLean() {
        TippedBarrow b = Due.told("w2;r0 0;b0 0;k9;");
        fraction(b, 1, 2, 0, 1);
        fraction(b, 1, 3, 1, 1);
        outlook(b, "three pushes to the left", 1, 3, 1);
        b.pushes(1);
        b.pushes(3);
        Due.is("lean -8 at limit 9", b.now(1), -8);
        for (int i = 0; i < 2; i++) {
            Due.is("would(1)", b.would(1), 1);
            outlook(b, "one more push", 1, 1, 1);
            row(b, 1, new int[] {1});
            fraction(b, 1, 1, 1, 1);
            Due.is("not to the right", b.soonest(2, -1), NONE);
            b.objects();
        }
        b = Due.told("w2;r4 8;b0 0;k9;");
        b.pushes(1);
        b.pushes(3);
        b.pushes(1);
        Due.is("lean 8 at limit 9", b.now(1), 8);
        row(b, 2, new int[] {3, 1});
        outlook(b, "two more pushes", 2, 2, 3);
    }

    private static void theLargestYard() {
        TippedBarrow b = Due.told("w5;r4 4 4 4 4;r4 4 4 4 4;r4 4 4 4 4;r4 4 4 4 5;b0 0;k2;");
        Due.is("seven pushes to the corner, two more for the second", b.soonest(2, -1), 9);
        row(b, 2, new int[] {1, 1, 1, 1, 2, 2, 2, 0, 2});
        Due.is("no left", b.soonest(1, -1), NONE);
        Due.is("far off", b.odds(2, 4, 0), 0);
        b = Due.told("w5;r4 4 4 4 4;r4 4 4 4 4;r4 4 4 4 4;r4 4 4 4 6;b4 2;k2;");
        outlook(b, "the plaintiff need not go there", 0, NONE, 0);
        b.objects();
        outlook(b, "the last cell", 2, 1, 2);
        Due.is("it decides", b.decides(), 1 << 19);
    }

    private static void refused() {
        TippedBarrow b = Due.told("w2;r4 5;b0 0;");
        TippedBarrow none = Due.told("w2;r4 5;");
        Due.is("game(-1)", b.game(-1), TippedBarrow.BAD);
        Due.is("game(2)", none.game(2), TippedBarrow.BAD);
        Due.is("game(0) without START", none.game(0), TippedBarrow.STATE);
        Due.is("game(1) without START", none.game(1), TippedBarrow.STATE);
        Due.is("advice() without START", none.advice(), TippedBarrow.STATE);
        Due.is("soonest(0, 0)", b.soonest(0, 0), TippedBarrow.BAD);
        Due.is("soonest(3, 0)", none.soonest(3, 0), TippedBarrow.BAD);
        Due.is("soonest(1, -2)", none.soonest(1, -2), TippedBarrow.BAD);
        Due.is("soonest(1, MIN)", b.soonest(1, Integer.MIN_VALUE), TippedBarrow.BAD);
        Due.is("soonest without START", none.soonest(1, -1), TippedBarrow.STATE);
        Due.is("odds(0, ..)", b.odds(0, 1, 0), TippedBarrow.BAD);
        Due.is("odds(3, ..)", none.odds(3, 1, 0), TippedBarrow.BAD);
        Due.is("odds by -1", b.odds(1, -1, 0), TippedBarrow.BAD);
        Due.is("odds by 5", b.odds(1, 5, 0), TippedBarrow.BAD);
        Due.is("odds, -1", b.odds(1, 1, -1), TippedBarrow.BAD);
        Due.is("odds, 2", none.odds(1, 1, 2), TippedBarrow.BAD);
        Due.is("odds without START", none.odds(1, 1, 1), TippedBarrow.STATE);
        Due.is("decides() without START", none.decides(), TippedBarrow.STATE);
    }

    private static void nothingIsChanged() {
        TippedBarrow b = Due.told("w4;r3 4 5 6;r2 x 4 6;r4 4 3 5;b1 0;k4;j1;");
        b.pushes(1);
        int[] nows = new int[8];
        for (int what = 0; what < 8; what++) {
            nows[what] = b.now(what);
        }
        b.would(1);
        b.game(0);
        b.game(1);
        b.advice();
        b.soonest(1, 2);
        b.odds(2, 4, 0);
        b.decides();
        b.leanings(0);
        for (int what = 0; what < 8; what++) {
            Due.is("as before: now(" + what + ")", b.now(what), nows[what]);
        }
        int[] tilts = {-1, 0, 1, 2, -2, TippedBarrow.NO, 0, 2, 0, 0, -1, 1};
        for (int i = 0; i < 12; i++) {
            Due.is("as before: tilt " + i, b.tilt(i % 4, i / 4), tilts[i]);
        }
        Due.is("as before: leaning", b.count(4), 1);
    }
}
