import java.util.function.ToIntFunction;

/** Section 3 but for what was told, and promises 11 to 16: each sentence that names a boundary. */
public final class ForecastEdgesTest {
    private static final int NONE = TippedBarrow.NONE, BAD = TippedBarrow.BAD, STATE = TippedBarrow.STATE;
    private static final int MAX = Integer.MAX_VALUE, MIN = Integer.MIN_VALUE;
    private static final int UP = 0, RIGHT = 1, DOWN = 2, LEFT = 3;

    private ForecastEdgesTest() {
    }

    public static void main(String[] args) {
        nothingIsChanged();
        asThingsAreNow();
        whateverWasAskedAhead();
        to512Calls();
        would();
        wouldAtTheLimit();
        wouldRefused();
        gameWhoAndInHowMany();
        gameRefused();
        gameInFewest();
        gameHoldsOut();
        gameOfOneWhoCannotMove();
        noObjectionsInGame();
        adviceRefused();
        adviceLowestOfSeveral();
        adviceWhereNeitherCan();
        adviceOfOneWhoCannotMove();
        soonestRefused();
        soonestFewest();
        soonestNotToTheOtherAhead();
        soonestFirstOfSeveral();
        soonestNotSoMany();
        soonestNone();
        soonestWhoeverPushes();
        oddsRefused();
        oddsEachAsLikely();
        oddsWhereItStays();
        oddsWithin();
        oddsOfTheFirstVerdict();
        oddsInLeastTerms();
        noObjectionsInOdds();
        decidesRefused();
        decidesBits();
        decidesNoBricksNoEvenCells();
        decidesTiltWithoutLeaning();
        decidesAnotherWinner();
        Due.end();
    }

    private static TippedBarrow busy() {
        TippedBarrow b = Due.told("w4;r 3 4 5 6;r 2 x 4 6;r 4 4 3 5;b1 0;k4;j2;");
        b.keep(0);
        Due.pushed(b, RIGHT, DOWN, RIGHT);
        b.evens(0, 2, -3);
        b.objects();
        Due.pushed(b, RIGHT);
        b.tells(1);
        b.tells(2);
        Due.type(b, "w1;");
        return b;
    }

    private static void nothingIsChanged() {
        Due.sentence("(nothing is changed) by WOULD, GAME, ADVICE, SOONEST, ODDS, DECIDES, LEANINGS");
        unchanged("would(1)", b -> b.would(1));
        unchanged("would(2)", b -> b.would(2));
        unchanged("game(0)", b -> b.game(0));
        unchanged("game(1)", b -> b.game(1));
        unchanged("advice()", b -> b.advice());
        unchanged("soonest(1, -1)", b -> b.soonest(1, -1));
        unchanged("soonest(2, 0)", b -> b.soonest(2, 0));
        unchanged("odds(1, 4, 0)", b -> b.odds(1, 4, 0));
        unchanged("odds(2, 4, 1)", b -> b.odds(2, 4, 1));
        unchanged("decides()", b -> b.decides());
        unchanged("leanings(0)", b -> b.leanings(0));
    }

    private static void unchanged(String call, ToIntFunction<TippedBarrow> asks) {
        TippedBarrow asked = busy();
        int first = asks.applyAsInt(asked);
        Due.is(call + " once more", asks.applyAsInt(asked), first);
        Twins.same(call, asked, busy());
    }

    private static void asThingsAreNow() {
        Due.sentence("(As things are NOW)");
        TippedBarrow b = Due.told("w3;r4 3 2;b0 0;k3;");
        outlook(b, "at first", 1, 5, RIGHT);
        Due.is("to the left", b.soonest(1, -1), 2);
        b.pushes(RIGHT);
        Due.is("LEAN -1, from CELL 1", b.would(RIGHT), 1);
        Due.is("to the left then", b.soonest(1, -1), 1);
        outlook(b, "the other one is to push", 1, 4, LEFT);
        b.objects();
        outlook(b, "the plaintiff is to push", 1, 1, RIGHT);
        odds(b, 1, 1, 1, 2);
        b.evens(2, 0, 4);
        Due.is("as EVENED", b.would(RIGHT), 2);
        odds(b, 1, 1, 0, 1);
        b.undo();
        Due.is("as UNDONE", b.would(RIGHT), 1);
        b.pushes(RIGHT);
        Due.is("the rut", b.tilt(2, 0), -3);
        b.evens(1, 0, 0);
        b.pushes(RIGHT);
        Due.is("by the rut", b.would(RIGHT), 1);
    }

    private static void whateverWasAskedAhead() {
        Due.sentence("(As things are NOW), whatever yard stood there ahead, and whatever was asked of it");
        String[] texts = {"w5;r0 4 8 4 0;r4 4 4 4 4;r8 4 0 4 8;r4 4 4 4 4;b2 1;k2;", "w2;r4 5;b0 0;k9;j3;",
            "w4;r3 4 5 6;r2x4 6;r4 4 3 5;b1 0;k4;", "w1;r4;b0 0;", "w3;r3 4 4;b1 0;k2;", "w3;r4 4 4;b1 0;k2;",
            "w2;r5 3;r4 4;b0 1;k3;j1;", "w3;r6xx;r4 4 6;b1 1;k2;"};
        TippedBarrow one = new TippedBarrow();
        for (String text : texts) {
            Due.type(one, text);
            one.yard();
            TippedBarrow fresh = Due.told(text);
            for (int what = 0; what < 2; what++) {
                Due.is("game(" + what + ") of " + text, one.game(what), Due.told(text).game(what));
            }
            Due.is("advice() of " + text, one.advice(), Due.told(text).advice());
            Due.is("decides() of " + text, one.decides(), fresh.decides());
            for (int side = 1; side <= 2; side++) {
                Due.is("soonest(" + side + ", -1) of " + text, one.soonest(side, -1), fresh.soonest(side, -1));
                Due.is("soonest(" + side + ", 0) of " + text, one.soonest(side, 0), fresh.soonest(side, 0));
                Due.is("odds(" + side + ", 4, 0) of " + text, one.odds(side, 4, 0), fresh.odds(side, 4, 0));
                Due.is("odds(" + side + ", 4, 1) of " + text, one.odds(side, 4, 1), fresh.odds(side, 4, 1));
            }
        }
    }

    private static void to512Calls() {
        Due.sentence("An object is used for at most 512 calls");
        String text = "w5;r3 4 5 6 3;r5 3 4 6 5;r4 4 3 5 3;r5 6 4 3 2;b2 1;k9;";
        TippedBarrow b = Due.told(text);
        int decides = b.decides();
        int soonest = b.soonest(1, -1);
        for (int calls = text.length() + 3; calls + 3 <= 512; calls += 3) {
            Due.is("decides()", b.decides(), decides);
            Due.is("soonest(1, -1)", b.soonest(1, -1), soonest);
            Due.is("now(1)", b.now(1), 0);
        }
    }

    // ---- WOULD

    private static void would() {
        Due.sentence("WOULD of a WAY: 0 it is on the next CELL then, 1 it TIPS to the left, 2 to the right");
        TippedBarrow b = Due.told("w3;r4 6 4;r2 4 4;r4 5 4;b1 1;k2;");
        int[] due = {2, 0, 0, 1};
        for (int way = 0; way < 4; way++) {
            Due.is("would(" + way + ")", b.would(way), due[way]);
            Due.is("pushes(" + way + ")", b.pushes(way), due[way]);
            b.undo();
        }
    }

    private static void wouldAtTheLimit() {
        Due.sentence("WOULD: -LIMIT or less, LIMIT or more");
        for (int limit = 2; limit <= 4; limit++) {
            for (int tilt = -4; tilt <= 4; tilt++) {
                TippedBarrow b = Due.told("w2;r4 " + (tilt + 4) + ";b0 0;k" + limit + ";");
                Due.is("would of " + tilt + " at " + limit, b.would(RIGHT), tilt <= -limit ? 1 : tilt >= limit ? 2 : 0);
            }
        }
    }

    private static void wouldRefused() {
        Due.sentence("would: BAD; STATE: it can not be pushed so");
        TippedBarrow b = Due.told("w3;r4 4 x;r4 4 4;b1 0;");
        int[] bad = {-1, 4, MIN, MAX};
        for (int way : bad) {
            Due.is("would(" + way + ")", b.would(way), BAD);
            Due.is("without START: would(" + way + "), BAD ahead of STATE", new TippedBarrow().would(way), BAD);
        }
        Due.is("the first CELL", b.would(LEFT), 0);
        Due.is("no such CELL", b.would(UP), STATE);
        Due.is("a brick", b.would(RIGHT), STATE);
        Due.is("beyond the last ROW", Due.told("w1;r4;r4;b0 1;").would(DOWN), STATE);
        Due.is("beyond WIDE", Due.told("w1;r4;r4;b0 1;").would(RIGHT), STATE);
        Due.is("left of x 0", Due.told("w5;r4 4 4 4 4;r4 4 4 4 4;b0 1;").would(LEFT), STATE);
        Due.is("right of x 4", Due.told("w5;r4 4 4 4 4;r4 4 4 4 4;b4 0;").would(RIGHT), STATE);
        for (int way = 0; way < 4; way++) {
            Due.is("no START", Due.told("w2;r4 4;").would(way), STATE);
            Due.is("a new object", new TippedBarrow().would(way), STATE);
        }
    }

    // ---- GAME, ADVICE

    private static void outlook(TippedBarrow b, String what, int winner, int pushes, int way) {
        Due.is(what + ": game(0)", b.game(0), winner);
        Due.is(what + ": game(1)", b.game(1), pushes);
        Due.is(what + ": advice()", b.advice(), way);
    }

    private static void gameWhoAndInHowMany() {
        Due.sentence("GAME: 1 the plaintiff can force it, 2 the other one can, 0 neither can; NONE: neither");
        outlook(Due.told("w2;r4 2;b0 0;k2;"), "to the left", 1, 1, RIGHT);
        outlook(Due.told("w2;r4 6;b0 0;k2;"), "to the right", 2, 1, RIGHT);
        outlook(Due.told("w2;r4 4;b0 0;k2;"), "level", 0, NONE, RIGHT);
        // The widest LEAN that has not tipped yet, -8 and 8.
        TippedBarrow b = Due.told("w2;r0 0;b0 0;k9;");
        outlook(b, "-12 by three", 1, 3, RIGHT);
        Due.pushed(b, RIGHT, LEFT);
        outlook(b, "-8 so far", 1, 1, RIGHT);
        b = Due.told("w2;r0 4;b0 0;k9;");
        outlook(b, "-12 by six", 1, 6, RIGHT);
        Due.pushed(b, RIGHT, LEFT, RIGHT, LEFT);
        outlook(b, "-8 on START", 1, 2, RIGHT);
        b.pushes(RIGHT);
        outlook(b, "-8 at the end", 1, 1, LEFT);
        b = Due.told("w2;r8 8;b0 0;k9;");
        outlook(b, "12 by three", 2, 3, RIGHT);
        Due.pushed(b, RIGHT, LEFT);
        outlook(b, "8 so far", 2, 1, RIGHT);
    }

    private static void gameRefused() {
        Due.sentence("game: (what = 0), (1). BAD; STATE: no START");
        TippedBarrow b = Due.told("w2;r4 2;b0 0;k2;");
        int[] bad = {-1, 2, MIN, MAX};
        for (int what : bad) {
            Due.is("game(" + what + ")", b.game(what), BAD);
            Due.is("without START: game(" + what + "), BAD ahead of STATE", new TippedBarrow().game(what), BAD);
        }
        for (int what = 0; what < 2; what++) {
            Due.is("a new object: game(" + what + ")", new TippedBarrow().game(what), STATE);
            Due.is("no START: game(" + what + ")", Due.told("w2;r4 2;k2;").game(what), STATE);
        }
    }

    private static void gameInFewest() {
        Due.sentence("GAME: whoever can force his side does in fewest PUSHES");
        // To the right and back are two PUSHES more, and RIGHT is the lower WAY.
        outlook(Due.told("w3;r2 4 4;b1 0;k2;"), "the plaintiff", 1, 1, LEFT);
        TippedBarrow b = Due.told("w3;r6 4 4;b1 0;k2;");
        b.objects();
        outlook(b, "the other one", 2, 1, LEFT);
        // To the left and back and to the left; by way of the right two PUSHES more.
        outlook(Due.told("w3;r3 4 4;b1 0;k2;"), "the plaintiff by three", 1, 3, LEFT);
        b = Due.told("w3;r5 4 4;b1 0;k2;");
        b.objects();
        outlook(b, "the other one by three", 2, 3, LEFT);
        outlook(Due.told("w4;r 3 4 5 6;r 2 x 4 6;r 4 4 3 5;b1 0;k4;j2;"), "the plaintiff by seven", 1, 7, LEFT);
    }

    private static void gameHoldsOut() {
        Due.sentence("GAME: the other one holds out for most");
        // RIGHT tips it at once; LEFT leaves him who wins one PUSH to do.
        outlook(Due.told("w3;r6xx;r4 4 6;b1 1;k2;"), "the plaintiff", 2, 2, LEFT);
        TippedBarrow b = Due.told("w3;r2xx;r4 4 2;b1 1;k2;");
        b.objects();
        outlook(b, "the other one", 1, 2, LEFT);
    }

    private static void gameOfOneWhoCannotMove() {
        Due.sentence("GAME: whoever can't move at all loses at once, 0 PUSHES");
        String[] texts = {"w1;r4;b0 0;", "w3;r4x4;rx4x;r4x4;b1 1;", "w1;r8;b0 0;k2;", "w1;r0;b0 0;k2;j0;"};
        for (String text : texts) {
            TippedBarrow b = Due.told(text);
            outlook(b, text + " the plaintiff", 2, 0, NONE);
            b.objects();
            outlook(b, text + " the other one", 1, 0, NONE);
        }
    }

    private static void noObjectionsInGame() {
        Due.sentence("(no OBJECTIONS in GAME)");
        // Whoever leaves START has the other one choose the side.
        TippedBarrow b = Due.told("w3;rx4x;r2 4 6;b1 0;k2;");
        for (int i = 0; i <= 6; i++) {
            outlook(b, i + " OBJECTIONS", i % 2 == 0 ? 2 : 1, 2, DOWN);
            b.objects();
        }
    }

    private static void adviceRefused() {
        Due.sentence("advice. STATE: no START");
        Due.is("START, and nothing was asked ahead", Due.told("w3;r4 4 2;b1 0;k2;").advice(), RIGHT);
        Due.is("a new object", new TippedBarrow().advice(), STATE);
        Due.is("CELLS, but no START", Due.told("w2;r4 2;k2;").advice(), STATE);
    }

    private static void adviceLowestOfSeveral() {
        Due.sentence("ADVICE: the WAY by which it comes so (of several the lowest)");
        String[] yards = {"w3;r4 T 4;rT 4 T;r4 T 4;b1 1;k2;", "w3;rxxx;rT 4 T;r4 T 4;b1 1;k2;",
            "w3;rxxx;rT 4 x;r4 T 4;b1 1;k2;", "w3;rxxx;rT 4 x;rxxx;b1 1;k2;"};
        for (int way = 0; way < 4; way++) {
            String yard = yards[way];
            TippedBarrow b = Due.told(yard.replace('T', '2'));
            outlook(b, "the plaintiff wins by " + way, 1, 1, way);
            b.objects();
            outlook(b, "the other one loses by " + way, 1, 1, way);
            b = Due.told(yard.replace('T', '6'));
            outlook(b, "the plaintiff loses by " + way, 2, 1, way);
            b.objects();
            outlook(b, "the other one wins by " + way, 2, 1, way);
        }
    }

    private static void adviceWhereNeitherCan() {
        Due.sentence("ADVICE (neither can: the lowest by which the other one can't force it)");
        String level = "w3;r4 4 4;r4 4 4;r4 4 4;";
        outlook(Due.told(level + "b1 1;"), "UP", 0, NONE, UP);
        outlook(Due.told(level + "b0 0;"), "no UP there", 0, NONE, RIGHT);
        outlook(Due.told(level + "b2 0;"), "no RIGHT there", 0, NONE, DOWN);
        outlook(Due.told("w3;r4 4 4;b2 0;"), "LEFT alone", 0, NONE, LEFT);
        outlook(Due.told("w3;r4 6 4;r4 4 4;b1 1;k2;"), "UP tips it to the other side", 0, NONE, RIGHT);
        outlook(Due.told("w3;r4 6 4;r4 4 6;b1 1;k2;"), "UP and RIGHT do", 0, NONE, LEFT);
        outlook(Due.told("w3;r6 4 x;rx 4 4;b1 1;k2;"), "UP lets the other one tip it", 0, NONE, RIGHT);
        TippedBarrow b = Due.told("w3;r2 4 x;rx 4 4;b1 1;k2;");
        b.objects();
        outlook(b, "UP lets the plaintiff tip it", 0, NONE, RIGHT);
    }

    private static void adviceOfOneWhoCannotMove() {
        Due.sentence("ADVICE: NONE (he can't move)");
        Due.is("the smallest yard", Due.told("w1;r4;b0 0;").advice(), NONE);
        Due.is("among bricks", Due.told("w3;r4x4;rx4x;r4x4;b1 1;").advice(), NONE);
    }

    // ---- SOONEST

    private static void row(TippedBarrow b, int side, int... ways) {
        Due.is("soonest(" + side + ", -1)", b.soonest(side, -1), ways.length);
        for (int k = 0; k < ways.length; k++) {
            Due.is("soonest(" + side + ", " + k + ")", b.soonest(side, k), ways[k]);
        }
        Due.is("soonest(" + side + ", " + ways.length + ")", b.soonest(side, ways.length), -5);
    }

    private static void noRow(TippedBarrow b, int side) {
        int[] all = {-1, 0, 1, 20, MAX};
        for (int k : all) {
            Due.is("soonest(" + side + ", " + k + ")", b.soonest(side, k), NONE);
        }
    }

    private static void soonestRefused() {
        Due.sentence("soonest: to a side (1, 2). BAD (below -1); STATE: no START");
        TippedBarrow b = Due.told("w2;r4 2;b0 0;k2;");
        TippedBarrow none = Due.told("w2;r4 2;k2;");
        int[] sides = {0, 3, -1, MIN, MAX};
        for (int side : sides) {
            Due.is("soonest(" + side + ", -1)", b.soonest(side, -1), BAD);
            Due.is("soonest(" + side + ", 0)", b.soonest(side, 0), BAD);
            Due.is("no START: soonest(" + side + ", 0), BAD ahead of STATE", none.soonest(side, 0), BAD);
        }
        for (int side = 1; side <= 2; side++) {
            Due.is("soonest(" + side + ", -2)", b.soonest(side, -2), BAD);
            Due.is("soonest(" + side + ", MIN)", b.soonest(side, MIN), BAD);
            Due.is("no START: soonest(" + side + ", -2), BAD ahead of STATE", none.soonest(side, -2), BAD);
            Due.is("no START: soonest(" + side + ", -1)", none.soonest(side, -1), STATE);
            Due.is("no START: soonest(" + side + ", 0)", none.soonest(side, 0), STATE);
            Due.is("a new object: soonest(" + side + ", 0)", new TippedBarrow().soonest(side, 0), STATE);
        }
    }

    private static void soonestFewest() {
        Due.sentence("SOONEST: the fewest PUSHES by which it TIPS to it: how many; the k-th WAY");
        row(Due.told("w2;r4 2;b0 0;k2;"), 1, RIGHT);
        row(Due.told("w2;r4 6;b0 0;k2;"), 2, RIGHT);
        row(Due.told("w2;r4 5;b0 0;k3;"), 2, RIGHT, LEFT, RIGHT, LEFT, RIGHT);
        row(Due.told("w2;r4 4;b0 0;k2;j3;"), 2, RIGHT, LEFT);
        row(Due.told("w2;r4 3;b0 0;k9;"), 1, 1, 3, 1, 3, 1, 3, 1, 3, 1, 3, 1, 3, 1, 3, 1, 3, 1);
        row(Due.told("w5;r4 4 4 4 4;r4 4 4 4 4;r4 4 4 4 4;r4 4 4 4 6;b0 0;k2;"), 2, 1, 1, 1, 1, 2, 2, 2);
        row(Due.told("w5;r2 4 4 4 4;r4 4 4 4 4;r4 4 4 4 4;r4 4 4 4 4;b4 3;k2;"), 1, 0, 0, 0, 3, 3, 3, 3);
        row(Due.told("w5;r4 4 4 4 4;r4 4 4 4 4;r4 4 4 4 4;r2 4 4 4 4;b4 0;k2;"), 1, 2, 2, 2, 3, 3, 3, 3);
        row(Due.told("w5;r4 4 4 4 4;r4 4 4 4 4;r4 4 4 4 4;r4 3 4 4 4;b4 0;k2;"), 1, 2, 2, 2, 3, 3, 3, 0, 2);
        // Far round, past bricks.
        row(Due.told("w5;r4 4 4 4 4;rxxxx4;r4 4 4 4 4;r2xxxx;b0 0;k2;"), 1, 1, 1, 1, 1, 2, 2, 3, 3, 3, 3, 2);
    }

    private static void soonestNotToTheOtherAhead() {
        Due.sentence("SOONEST (not to the other one ahead of that)");
        noRow(Due.told("w3;r4 8 0;b0 0;k4;"), 1);
        noRow(Due.told("w3;r4 0 8;b0 0;k4;"), 2);
        row(Due.told("w3;r4 8 0;r4 4 4;b0 0;k4;"), 1, DOWN, RIGHT, RIGHT, UP);
        row(Due.told("w3;r4 0 8;r4 4 4;b0 0;k4;"), 2, DOWN, RIGHT, RIGHT, UP);
        // Back to START for more of CELL 1 would tip it to the right.
        row(Due.told("w3;r4 7 0;b0 0;k4;"), 1, RIGHT, RIGHT, LEFT, RIGHT, LEFT, RIGHT, LEFT, RIGHT);
    }

    private static void soonestFirstOfSeveral() {
        Due.sentence("SOONEST: of several rows the first");
        row(Due.told("w3;r4 6 4;r6 4 6;r4 6 4;b1 1;k2;"), 2, UP);
        row(Due.told("w3;r4 4 4;r6 4 6;r4 6 4;b1 1;k2;"), 2, RIGHT);
        row(Due.told("w3;r4 4 4;r6 4 4;r4 6 4;b1 1;k2;"), 2, DOWN);
        row(Due.told("w3;r5 5 5;r5 4 5;r5 5 5;b1 1;k2;"), 2, UP, RIGHT);
        row(Due.told("w2;r4 4;r4 6;b0 0;k2;"), 2, RIGHT, DOWN);
        row(Due.told("w3;r4 4 4;r4 4 4;r4 4 6;b0 0;k2;"), 2, RIGHT, RIGHT, DOWN, DOWN);
        row(Due.told("w3;r6 4 4;r4 4 4;r4 4 4;b2 2;k2;"), 2, UP, UP, LEFT, LEFT);
        // The first WAY decides, though the last one would be lower in another row.
        row(Due.told("w3;r4 4 2;r4 4 4;r4 2 4;b1 1;k2;"), 1, DOWN);
        row(Due.told("w4;r2 4 4 4;r4 4 4 4;r4 4 4 2;b1 1;k2;"), 1, UP, LEFT);
    }

    private static void soonestNotSoMany() {
        Due.sentence("SOONEST: the k-th WAY (-5: not so many)");
        TippedBarrow b = Due.told("w2;r4 5;b0 0;k2;");
        row(b, 2, RIGHT, LEFT, RIGHT);
        int[] beyond = {3, 4, 100, 339, 340, 341, MAX};
        for (int k : beyond) {
            Due.is("soonest(2, " + k + ")", b.soonest(2, k), -5);
        }
    }

    private static void soonestNone() {
        Due.sentence("SOONEST: NONE");
        noRow(Due.told("w2;r4 4;b0 0;k2;"), 1);
        noRow(Due.told("w2;r4 4;b0 0;k2;"), 2);
        noRow(Due.told("w2;r4 2;b0 0;k2;"), 2);
        noRow(Due.told("w1;r0;b0 0;k2;"), 1);
        noRow(Due.told("w3;r8x8;rx8x;r8x8;b1 1;k2;"), 2);
    }

    private static void soonestWhoeverPushes() {
        Due.sentence("SOONEST: whoever pushes (no OBJECTIONS in SOONEST)");
        TippedBarrow b = Due.told("w2;r4 5;b0 0;k2;");
        for (int i = 0; i <= 6; i++) {
            row(b, 2, RIGHT, LEFT, RIGHT);
            b.objects();
        }
        b.pushes(RIGHT);
        row(b, 2, LEFT, RIGHT);
    }

    // ---- ODDS

    private static void odds(TippedBarrow b, int side, int n, int upper, int lower) {
        Due.is("odds(" + side + ", " + n + ", 0)", b.odds(side, n, 0), upper);
        Due.is("odds(" + side + ", " + n + ", 1)", b.odds(side, n, 1), lower);
    }

    private static void oddsRefused() {
        Due.sentence("odds of a side (1, 2) by n (0 .. 4): upper (what = 0), lower number (1). BAD; STATE: no START");
        TippedBarrow b = Due.told("w2;r4 2;b0 0;k2;");
        TippedBarrow none = Due.told("w2;r4 2;k2;");
        int[][] bad = {{0, 1, 0}, {3, 1, 0}, {MIN, 1, 0}, {MAX, 1, 1}, {1, -1, 0}, {1, 5, 0}, {2, MIN, 1}, {2, MAX, 1},
            {1, 1, -1}, {1, 1, 2}, {2, 4, MIN}, {2, 0, MAX}};
        for (int[] is : bad) {
            String call = "odds(" + is[0] + ", " + is[1] + ", " + is[2] + ")";
            Due.is(call, b.odds(is[0], is[1], is[2]), BAD);
            Due.is("no START: " + call + ", BAD ahead of STATE", none.odds(is[0], is[1], is[2]), BAD);
        }
        for (int n = 0; n <= 4; n++) {
            for (int i = 0; i < 4; i++) {
                Due.is("no START", none.odds(1 + i / 2, n, i % 2), STATE);
                Due.is("a new object", new TippedBarrow().odds(1 + i / 2, n, i % 2), STATE);
            }
        }
    }

    private static void oddsEachAsLikely() {
        Due.sentence("ODDS: each PUSH by any WAY there is, each as likely");
        odds(Due.told("w3;r4 6 4;r4 4 4;r4 4 4;b1 1;k2;"), 2, 1, 1, 4);
        odds(Due.told("w3;r4 6 4;r4 4 4;rxxx;b1 1;k2;"), 2, 1, 1, 3);
        odds(Due.told("w3;r4 6 4;r4 4 x;rxxx;b1 1;k2;"), 2, 1, 1, 2);
        odds(Due.told("w3;r4 6 4;rx4x;rxxx;b1 1;k2;"), 2, 1, 1, 1);
        odds(Due.told("w2;r6 4;r4 4;b1 1;k2;"), 2, 2, 1, 2);
        odds(Due.told("w3;r6 4 4;r4 4 4;r4 4 4;b1 1;k2;"), 2, 2, 1, 6);
    }

    private static void oddsWhereItStays() {
        Due.sentence("ODDS (none: it stays)");
        String[] texts = {"w1;r0;b0 0;k2;", "w1;r8;b0 0;k2;j4;", "w3;r8x8;rx8x;r8x8;b1 1;k2;"};
        for (String text : texts) {
            TippedBarrow b = Due.told(text);
            for (int n = 0; n <= 4; n++) {
                odds(b, 1, n, 0, 1);
                odds(b, 2, n, 0, 1);
            }
        }
    }

    private static void oddsWithin() {
        Due.sentence("ODDS: that it TIPS to that side within n (0 .. 4)");
        TippedBarrow b = Due.told("w5;r4 4 4 4 6;b0 0;k2;");
        for (int n = 0; n <= 3; n++) {
            odds(b, 2, n, 0, 1);
        }
        odds(b, 2, 4, 1, 8);
        odds(b, 1, 4, 0, 1);
        b = Due.told("w2;r4 2;b0 0;k2;");
        odds(b, 1, 0, 0, 1);
        for (int n = 1; n <= 4; n++) {
            odds(b, 1, n, 1, 1);
            odds(b, 2, n, 0, 1);
        }
        b = Due.told("w2;r0 4;b0 0;k9;");
        Due.pushed(b, RIGHT, LEFT, RIGHT, LEFT);
        odds(b, 1, 1, 0, 1);
        odds(b, 1, 2, 1, 1);
        // Half of it by the first PUSH, and half of the rest by each second one.
        b = Due.told("w3;r4 4 6;b1 0;k2;");
        odds(b, 2, 1, 1, 2);
        odds(b, 2, 2, 1, 2);
        odds(b, 2, 3, 3, 4);
        odds(b, 2, 4, 3, 4);
    }

    private static void oddsOfTheFirstVerdict() {
        Due.sentence("ODDS (the first VERDICT counts)");
        TippedBarrow b = Due.told("w3;r0 4 8;b1 0;k2;");
        for (int n = 1; n <= 4; n++) {
            odds(b, 1, n, 1, 2);
            odds(b, 2, n, 1, 2);
        }
        // To the right tips it to the right; what stands behind there is not come to.
        b = Due.told("w4;r4 4 8 0;b1 0;k2;");
        odds(b, 1, 4, 0, 1);
        odds(b, 2, 4, 3, 4);
    }

    private static void oddsInLeastTerms() {
        Due.sentence("odds: upper, lower number, in least terms");
        odds(Due.told("w3;r4 6 4;r6 4 4;r4 4 4;b1 1;k2;"), 2, 1, 1, 2);
        odds(Due.told("w3;r4 6 4;r6 4 6;r4 4 4;b1 1;k2;"), 2, 1, 3, 4);
        odds(Due.told("w3;r4 6 4;r6 4 6;r4 6 4;b1 1;k2;"), 2, 1, 1, 1);
        odds(Due.told("w3;r4 6 4;r6 4 6;r4 6 4;b1 1;k2;"), 1, 1, 0, 1);
        odds(Due.told("w3;r4 6 4;r6 4 6;r4 6 4;b1 1;k2;"), 2, 4, 1, 1);
        odds(Due.told("w2;r6 4;r4 4;b1 1;k2;"), 2, 4, 3, 4);
        odds(Due.told("w5;rx4xxx;r4 4 4 4 6;rx4x4x;b1 1;k2;"), 2, 3, 1, 24);
    }

    private static void noObjectionsInOdds() {
        Due.sentence("(no OBJECTIONS in ODDS); each PUSH, whoever pushes");
        TippedBarrow b = Due.told("w3;r4 4 6;b1 0;k2;");
        for (int i = 0; i <= 6; i++) {
            odds(b, 2, 1, 1, 2);
            odds(b, 2, 3, 3, 4);
            b.objects();
        }
    }

    // ---- DECIDES

    private static void decidesRefused() {
        Due.sentence("decides. STATE: no START");
        Due.is("a new object", new TippedBarrow().decides(), STATE);
        Due.is("CELLS, but no START", Due.told("w2;r4 2;k2;").decides(), STATE);
    }

    private static void decidesBits() {
        Due.sentence("DECIDES: CELLS (bits by numbers)");
        Due.is("the first", Due.told("w2;r2 4;b1 0;k2;").decides(), 1);
        Due.is("the last", Due.told("w5;rxxxxx;rxxxxx;rxxxxx;rxxx4 2;b3 3;k2;").decides(), 1 << 19);
        Due.is("START itself", Due.told("w2;r6 4;b0 0;k2;").decides(), 1);
        Due.is("in the second ROW of WIDE 2", Due.told("w2;r4x;r2x;b0 0;k2;").decides(), 1 << 5);
        Due.is("either alone would do", Due.told("w2;r3 3;b0 0;k2;").decides(), 0);
        Due.is("both of two", Due.told("w2;r5 3;b0 0;k2;").decides(), 3);
    }

    private static void decidesNoBricksNoEvenCells() {
        Due.sentence("DECIDES: CELLS no bricks, whose TILT is not 0");
        Due.is("even ones", Due.told("w3;r4 4 4;r4 4 4;b0 0;k2;").decides(), 0);
        Due.is("even ones and a LEANING", Due.told("w2;r4 4;b0 0;k2;j0;").decides(), 0);
        // A CELL in a brick's place would be a way out.
        Due.is("a brick", Due.told("w3;r4 6 x;rxxx;b0 0;k2;").decides(), 2);
        Due.is("a brick that shuts him in", Due.told("w2;r4x;b0 0;k2;").decides(), 0);
    }

    private static void decidesTiltWithoutLeaning() {
        Due.sentence("DECIDES: were its TILT 0 (LEANING stays)");
        Due.is("LEANING tips it all the same", Due.told("w2;r5 3;b0 0;k2;j1;").decides(), 0);
        Due.is("LEANING alone would tip it to the right", Due.told("w2;r4 0;b0 0;k2;j4;").decides(), 2);
    }

    private static void decidesAnotherWinner() {
        Due.sentence("DECIDES: GAME would have another winner (0, 1, 2)");
        Due.is("0 for 1", Due.told("w2;r4 2;b0 0;k2;").decides(), 2);
        Due.is("0 for 2", Due.told("w2;r4 6;b0 0;k2;").decides(), 2);
        Due.is("0 for 2, by a CELL farther off", Due.told("w3;r2 4 6;b0 0;k2;").decides(), 4);
        Due.is("1 for 0 and 2 for 0", Due.told("w2;r5 3;b0 0;k2;").decides(), 3);
        Due.is("2 for 1", Due.told("w3;rx2 6;rx4x;b1 1;k2;").decides(), 2);
        TippedBarrow b = Due.told("w3;rx6 2;rx4x;b1 1;k2;");
        b.objects();
        Due.is("1 for 2", b.decides(), 2);
        // One PUSH by the nearer, three by the farther: in more PUSHES, but the same winner.
        Due.is("the same winner, later", Due.told("w3;r2 4 2;b1 0;k2;").decides(), 0);
        Due.is("a CELL far from it all", Due.told("w4;r4 2x2;b0 0;k2;").decides(), 2);
        Due.is("who can't move loses, level or not", Due.told("w1;r7;b0 0;k2;").decides(), 0);
    }
}
