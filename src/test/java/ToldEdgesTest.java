/** What was told (section 3) and promises 17 to 19: each sentence that names a boundary. */
public final class ToldEdgesTest {
    private static final int BAD = TippedBarrow.BAD, STATE = TippedBarrow.STATE, FULL = TippedBarrow.FULL;
    private static final int MAX = Integer.MAX_VALUE, MIN = Integer.MIN_VALUE;
    private static final int UP = 0, RIGHT = 1, DOWN = 2, LEFT = 3;

    private ToldEdgesTest() {
    }

    public static void main(String[] args) {
        wayOutOfBounds();
        eightAtMost();
        forgotten();
        howOutOfBounds();
        withoutStart();
        noWaysTold();
        bitsOfLeanings();
        allCouldBePushed();
        notAheadOfTheLast();
        eightWays();
        fromStart();
        tiltsAsNow();
        oneBehindAnother();
        whateverLeaningIs();
        byTheLimit();
        Due.end();
    }

    private static void tell(TippedBarrow b, int... ways) {
        for (int way : ways) {
            b.tells(way);
        }
    }

    private static void leanings(String what, TippedBarrow b, int not, int left, int right) {
        Due.is(what + ": leanings(0)", b.leanings(0), not);
        Due.is(what + ": leanings(1)", b.leanings(1), left);
        Due.is(what + ": leanings(2)", b.leanings(2), right);
    }

    private static void wayOutOfBounds() {
        Due.sentence("tells: a WAY is TOLD behind the others: how many there are. BAD");
        TippedBarrow b = new TippedBarrow();
        int[] bad = {-1, 4, MIN, MAX};
        for (int way : bad) {
            Due.is("tells(" + way + ")", b.tells(way), BAD);
        }
        Due.is("none is TOLD", b.count(5), 0);
        for (int way = 0; way < 4; way++) {
            Due.is("tells(" + way + ")", b.tells(way), way + 1);
        }
    }

    private static void eightAtMost() {
        Due.sentence("TOLD (8 at most). FULL");
        TippedBarrow b = Due.told("w2;r4 4;b0 0;");
        for (int i = 1; i <= 8; i++) {
            Due.is("WAY " + i, b.tells(i % 2 == 1 ? RIGHT : LEFT), i);
        }
        Due.is("a ninth", b.tells(RIGHT), FULL);
        Due.is("a ninth, no WAY: BAD ahead of FULL", b.tells(4), BAD);
        Due.is("a ninth, no WAY: BAD ahead of FULL", b.tells(-1), BAD);
        Due.is("eight are TOLD", b.count(5), 8);
        // A ninth, to the right or up, would change what these say.
        leanings("eight", b, 4, 0, 0);
    }

    private static void forgotten() {
        Due.sentence("forget: no WAYS are TOLD: how many were");
        TippedBarrow b = Due.told("w2;r4 4;b0 0;k2;");
        Due.is("none were", b.forget(), 0);
        tell(b, UP);
        Due.is("one was", b.forget(), 1);
        Due.is("none are", b.count(5), 0);
        leanings("none are", b, 31, 0, 0);
        tell(b, 0, 0, 0, 0, 0, 0, 0, 0);
        Due.is("eight were", b.forget(), 8);
        Due.is("forget() again", b.forget(), 0);
        Due.is("the first anew", b.tells(RIGHT), 1);
        leanings("the first anew", b, 14, 1, 16);
    }

    private static void howOutOfBounds() {
        Due.sentence("leanings: how it ended (0 not tipped, 1, 2). BAD");
        TippedBarrow b = Due.told("w2;r4 4;b0 0;");
        int[] bad = {-1, 3, MIN, MAX};
        for (int how : bad) {
            Due.is("leanings(" + how + ")", b.leanings(how), BAD);
            Due.is("no START: leanings(" + how + "), BAD ahead of STATE", new TippedBarrow().leanings(how), BAD);
        }
    }

    private static void withoutStart() {
        Due.sentence("leanings. STATE: no START");
        for (int how = 0; how <= 2; how++) {
            TippedBarrow b = Due.told("w2;r4 4;");
            Due.is("no START: leanings(" + how + ")", b.leanings(how), STATE);
            tell(b, RIGHT);
            Due.is("no START, a WAY TOLD: leanings(" + how + ")", b.leanings(how), STATE);
            Due.is("a new object: leanings(" + how + ")", new TippedBarrow().leanings(how), STATE);
        }
    }

    private static void noWaysTold() {
        Due.sentence("LEANINGS: of no WAYS told: all for 0, none else");
        leanings("a yard", Due.told("w2;r0 0;b0 0;k2;j0;"), 31, 0, 0);
        leanings("where nobody can move", Due.told("w1;r8;b0 0;k2;"), 31, 0, 0);
        TippedBarrow b = Due.told("w2;r4 7;b0 0;k9;");
        b.pushes(RIGHT);
        leanings("behind a push", b, 31, 0, 0);
    }

    private static void bitsOfLeanings() {
        Due.sentence("LEANINGS: bits 0 .. 4: LEANING and 2");
        int[][] due = {{0, 31, 0}, {16, 15, 0}, {24, 7, 0}, {28, 3, 0}, {14, 1, 16}, {7, 0, 24}, {3, 0, 28}, {1, 0, 30}, {0, 0, 31}};
        for (int tilt = 0; tilt <= 8; tilt++) {
            TippedBarrow b = Due.told("w2;r4 " + tilt + ";b0 0;k2;");
            tell(b, RIGHT);
            leanings("TILT " + (tilt - 4), b, due[tilt][0], due[tilt][1], due[tilt][2]);
        }
    }

    private static void allCouldBePushed() {
        Due.sentence("LEANINGS: by which all of these could be pushed (0: not at all)");
        int[][] rows = {{UP}, {DOWN}, {LEFT}, {RIGHT, RIGHT}, {RIGHT, LEFT, LEFT}, {RIGHT, UP, LEFT}, {RIGHT, LEFT, UP, RIGHT},
            {RIGHT, DOWN}, {RIGHT, RIGHT, LEFT}};
        for (int[] row : rows) {
            TippedBarrow b = Due.told("w3;r4 4 x;rx x 4;b0 0;k9;");
            tell(b, row);
            leanings("row of " + row.length + " from " + row[0], b, 0, 0, 0);
        }
        TippedBarrow b = Due.told("w5;r4 4 4 4 4;r4 4 4 4 4;r4 4 4 4 4;r4 4 4 4 4;b4 2;k9;");
        tell(b, DOWN);
        leanings("the last ROW can be pushed to", b, 31, 0, 0);
        tell(b, RIGHT);
        leanings("nothing is right of it", b, 0, 0, 0);
        b.forget();
        tell(b, DOWN, DOWN);
        leanings("nothing is below it", b, 0, 0, 0);
        // It tips by the first for some, and then a second that can't be pushed is none of theirs either.
        b = Due.told("w2;r4 4;b0 0;k2;");
        tell(b, RIGHT, RIGHT);
        leanings("off WIDE", b, 0, 0, 0);
    }

    private static void notAheadOfTheLast() {
        Due.sentence("LEANINGS: it TIPPED by the last one just so, not ahead of it");
        TippedBarrow b = Due.told("w2;r4 4;b0 0;k2;");
        tell(b, RIGHT);
        leanings("one", b, 14, 1, 16);
        tell(b, LEFT);
        leanings("two", b, 4, 2, 8);
        tell(b, RIGHT);
        leanings("three", b, 4, 0, 0);
        b = Due.told("w3;r4 8 0;b0 0;k4;");
        tell(b, RIGHT, RIGHT);
        leanings("tipped to the right ahead of it by three of them", b, 2, 1, 0);
        b = Due.told("w3;r4 0 8;b0 0;k4;");
        tell(b, RIGHT, RIGHT);
        leanings("tipped to the left ahead of it by three of them", b, 8, 0, 16);
    }

    private static void eightWays() {
        Due.sentence("LEANINGS of 8 WAYS");
        TippedBarrow b = Due.told("w2;r4 4;b0 0;k8;");
        tell(b, 1, 3, 1, 3, 1, 3, 1);
        leanings("seven", b, 14, 0, 0);
        tell(b, 3);
        leanings("eight", b, 4, 2, 8);
        b = Due.told("w2;r4 4;b0 0;k9;");
        tell(b, 1, 3, 1, 3, 1, 3, 1, 3);
        leanings("eight, LEAN -8 .. 8", b, 14, 0, 0);
    }

    private static void fromStart() {
        Due.sentence("TOLD: WAYS that were pushed from START, LEAN 0");
        TippedBarrow b = Due.told("w3;r4 5 4;b1 0;k2;");
        tell(b, RIGHT);
        leanings("on START", b, 14, 1, 16);
        b.pushes(RIGHT);
        leanings("at the right end", b, 14, 1, 16);
        b.pushes(LEFT);
        Due.is("LEAN on START", b.now(1), 1);
        leanings("with LEAN 1", b, 14, 1, 16);
        b.objects();
        leanings("whoever is to push", b, 14, 1, 16);
    }

    private static void tiltsAsNow() {
        Due.sentence("TOLD: TILTS as NOW");
        TippedBarrow b = Due.told("w3;r4 4 6;b1 0;k2;");
        tell(b, RIGHT);
        leanings("as told", b, 3, 0, 28);
        b.pushes(RIGHT);
        leanings("with its rut", b, 1, 0, 30);
        b.keep(0);
        b.evens(2, 0, 0);
        leanings("EVENED", b, 14, 1, 16);
        b.undo();
        leanings("UNDONE", b, 1, 0, 30);
        b.evens(2, 0, -4);
        b.back(0);
        leanings("as the IMAGE has it", b, 1, 0, 30);
    }

    private static void oneBehindAnother() {
        Due.sentence("TOLD: one behind another");
        TippedBarrow b = Due.told("w2;r4 7;r1 4;b0 0;k3;");
        tell(b, RIGHT, DOWN);
        leanings("to the right, then down", b, 3, 0, 0);
        b.forget();
        tell(b, DOWN, RIGHT);
        leanings("down, then to the right", b, 24, 0, 0);
    }

    private static void whateverLeaningIs() {
        Due.sentence("LEANINGS: by which (whatever LEANING is)");
        for (int j = 0; j <= 4; j++) {
            TippedBarrow b = Due.told("w2;r4 4;b0 0;k2;j" + j + ";");
            tell(b, RIGHT);
            leanings("j " + j, b, 14, 1, 16);
            Due.is("LEANING stays", b.count(4), j);
        }
    }

    private static void byTheLimit() {
        Due.sentence("LEANINGS: TIPPED: -LIMIT or less, LIMIT or more");
        TippedBarrow b = Due.told("w2;r4 7;b0 0;k5;");
        tell(b, RIGHT);
        leanings("3 and 2 of 5", b, 15, 0, 16);
        b = Due.told("w2;r4 7;b0 0;k4;");
        tell(b, RIGHT);
        leanings("3 and 1 of 4", b, 7, 0, 24);
        b = Due.told("w2;r4 1;b0 0;k5;");
        tell(b, RIGHT);
        leanings("-3 and -2 of 5", b, 30, 1, 0);
        b = Due.told("w2;r4 8;b0 0;k9;");
        tell(b, RIGHT);
        leanings("none of 9", b, 31, 0, 0);
    }
}
