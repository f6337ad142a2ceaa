/** Section 4 (kinds, images) and promises 20 to 22 and 24: each sentence that names a boundary. */
public final class KindEdgesTest {
    private static final int NO = TippedBarrow.NO, BAD = TippedBarrow.BAD, STATE = TippedBarrow.STATE;
    private static final int MAX = Integer.MAX_VALUE, MIN = Integer.MIN_VALUE;
    private static final int RIGHT = 1, DOWN = 2, LEFT = 3;

    private KindEdgesTest() {
    }

    public static void main(String[] args) {
        kindOutOfBounds();
        rateWhereNoCellIs();
        cell();
        rut();
        puddle();
        plank();
        bean();
        quarry();
        asTiltsAreNow();
        traceOfEachKind();
        traceGoesOn();
        keepRefused();
        backRefused();
        noneWasKept();
        keepsNow();
        imageIsACopy();
        keptAnew();
        keepsNothingElse();
        keepChangesNothing();
        nothingUndoneBehindBack();
        Due.end();
    }

    private static void kindOutOfBounds() {
        Due.sentence("rate. NO: BAD (KINDS 0 .. 5); THE TRACE: as often as rate() asks that body");
        TippedBarrow b = Due.told("w2;r5 x;r5 5;b0 0;");
        int[] bad = {-1, 6, MIN, MAX};
        for (int kind : bad) {
            Due.is("rate(" + kind + ", 0, 0)", b.rate(kind, 0, 0), NO);
        }
        Due.is("no body was asked", b.trace(), 0);
        for (int kind = 0; kind <= 5; kind++) {
            Due.is("rate(" + kind + ", 0, 0) is none", b.rate(kind, 0, 0) == NO ? 1 : 0, 0);
        }
    }

    private static void rateWhereNoCellIs() {
        Due.sentence("RATE of a CELL (no brick). NO: BAD, a brick");
        TippedBarrow b = Due.told("w2;r5 x;r5 5;b0 0;");
        int[][] none = {{1, 0}, {-1, 0}, {2, 0}, {2, 1}, {0, -1}, {0, 2}, {5, 0}, {-5, 1}, {4, 3}, {0, 4}, {MAX, 0}, {0, MIN}};
        for (int[] cell : none) {
            for (int kind = 0; kind <= 5; kind++) {
                Due.is("rate(" + kind + ", " + cell[0] + ", " + cell[1] + ")", b.rate(kind, cell[0], cell[1]), NO);
            }
        }
        Due.is("no body was asked", b.trace(), 0);
        Due.is("a new object has no CELLS", new TippedBarrow().rate(0, 0, 0), NO);
        Due.is("the last x and y", b.rate(0, 1, 1), 1);
        Due.is("no START need be told", Due.told("w1;r6;").rate(0, 0, 0), 2);
    }

    // ---- KINDS

    private static final String STEPS = "w5;r0 1 2 3 4;r4 4 4 4 4;r4 4 4 4 4;r8 7 6 5 4;b0 1;k9;";

    private static void cell() {
        Due.sentence("KIND 0, CELL: its TILT");
        TippedBarrow b = Due.told(STEPS);
        for (int x = 0; x < 5; x++) {
            Due.is("rate(0, " + x + ", 0)", b.rate(0, x, 0), x - 4);
            Due.is("rate(0, " + x + ", 3)", b.rate(0, x, 3), 4 - x);
        }
        Due.is("LEANING is none of it", Due.told("w1;r7;j4;").rate(0, 0, 0), 3);
    }

    private static void rut() {
        Due.sentence("KIND 1, RUT: up, and its x");
        TippedBarrow b = Due.told(STEPS);
        for (int x = 0; x < 5; x++) {
            Due.is("rate(1, " + x + ", 0)", b.rate(1, x, 0), 2 * x - 4);
            Due.is("rate(1, " + x + ", 3)", b.rate(1, x, 3), 4);
        }
    }

    private static void puddle() {
        Due.sentence("KIND 2, PUDDLE: up less LEAN");
        TippedBarrow b = Due.told(STEPS);
        Due.is("LEAN 0", b.rate(2, 0, 3), 4);
        b.evens(1, 1, -4);
        b.pushes(RIGHT);
        Due.is("LEAN", b.now(1), -4);
        Due.is("LEAN -4, TILT 4", b.rate(2, 0, 3), 8);
        Due.is("LEAN -4, TILT -4", b.rate(2, 0, 0), 0);
        b.evens(0, 1, 4);
        b.pushes(LEFT);
        b.evens(1, 1, 4);
        b.pushes(RIGHT);
        Due.is("LEAN", b.now(1), 4);
        Due.is("LEAN 4, TILT 4", b.rate(2, 0, 3), 0);
        Due.is("LEAN 4, TILT -4", b.rate(2, 0, 0), -8);
    }

    private static void plank() {
        Due.sentence("KIND 3, PLANK (under RUT): twice up (asked once)");
        TippedBarrow b = Due.told(STEPS);
        for (int x = 0; x < 5; x++) {
            Due.is("rate(3, " + x + ", 0)", b.rate(3, x, 0), 2 * (2 * x - 4));
            Due.is("rate(3, " + x + ", 3)", b.rate(3, x, 3), 8);
        }
        TippedBarrow once = Due.told("w1;r4;");
        once.rate(3, 0, 0);
        Due.is("RUT and CELL are asked once each", once.trace(), 1011);
    }

    private static void bean() {
        Due.sentence("KIND 4, BEAN (under PUDDLE): up, and its y");
        TippedBarrow b = Due.told("w1;r5;r5;r5;r5;b0 0;k9;");
        for (int y = 0; y < 4; y++) {
            Due.is("rate(4, 0, " + y + ")", b.rate(4, 0, y), 1 + y);
        }
        b.pushes(DOWN);
        b.pushes(DOWN);
        for (int y = 0; y < 4; y++) {
            Due.is("LEAN 2: rate(4, 0, " + y + ")", b.rate(4, 0, y), y - 1);
        }
    }

    private static void quarry() {
        Due.sentence("KIND 5, QUARRY (under CELL): up, and all VERDICTS");
        TippedBarrow b = Due.told("w3;r2 4 6;b1 0;k2;");
        Due.is("none", b.rate(5, 1, 0), 0);
        b.pushes(LEFT);
        Due.is("one to the left", b.rate(5, 1, 0), 1);
        Due.pushed(b, RIGHT, RIGHT);
        Due.is("two to the right, too", b.rate(5, 1, 0), 3);
        Due.is("and TILT", b.rate(5, 0, 0), 0);
        b.pushes(RIGHT);
        b.pushes(LEFT);
        Due.is("five", b.rate(5, 2, 0), 9);
        b.undo();
        Due.is("one of them UNDONE", b.rate(5, 2, 0), 8);
    }

    private static void asTiltsAreNow() {
        Due.sentence("RATE: as things are NOW (TILT)");
        TippedBarrow b = Due.told("w2;r4 6;b0 0;k2;");
        b.pushes(RIGHT);
        Due.is("with its rut", b.rate(0, 1, 0), 3);
        b.evens(1, 0, -2);
        Due.is("EVENED", b.rate(1, 1, 0), -1);
        b.undo();
        Due.is("UNDONE", b.rate(3, 1, 0), 8);
    }

    private static void traceOfEachKind() {
        Due.sentence("THE TRACE, 0 at first: CELL (1), RUT (10), PUDDLE (100), PLANK (1000), BEAN (10000), QUARRY (100000)");
        Due.is("a new object", new TippedBarrow().trace(), 0);
        long[] due = {1, 11, 101, 1011, 10101, 100001};
        for (int kind = 0; kind <= 5; kind++) {
            TippedBarrow b = Due.told("w1;r4;b0 0;");
            Due.is("at first", b.trace(), 0);
            for (int i = 1; i <= 20; i++) {
                b.rate(kind, 0, 0);
                Due.is("rate() of " + kind + ", " + i + " times", b.trace(), i * due[kind]);
            }
        }
    }

    private static void traceGoesOn() {
        Due.sentence("THE TRACE goes on, as behind undo(), back()");
        TippedBarrow b = Due.told("w2;r4 4;b0 0;");
        b.keep(0);
        b.pushes(RIGHT);
        b.rate(1, 0, 0);
        b.undo();
        Due.is("behind undo()", b.trace(), 11);
        b.pushes(RIGHT);
        b.rate(0, 0, 0);
        b.back(0);
        Due.is("behind back()", b.trace(), 12);
        Due.type(b, "w1;r4;");
        b.yard();
        Due.is("behind yard()", b.trace(), 12);
        b.yard();
        Due.is("behind yard() of nothing", b.trace(), 12);
        b.rate(0, 0, 0);
        Due.is("rate() where no CELL is", b.trace(), 12);
        b.game(0);
        b.now(0);
        Due.is("no other call asks a body", b.trace(), 12);
    }

    // ---- IMAGES

    private static void keepRefused() {
        Due.sentence("IMAGES 0, 1. keep: BAD");
        TippedBarrow b = Due.told("w2;r4 4;b0 0;");
        int[] bad = {-1, 2, MIN, MAX};
        for (int image : bad) {
            Due.is("keep(" + image + ")", b.keep(image), BAD);
        }
        Due.is("none was kept: back(0)", b.back(0), STATE);
        Due.is("none was kept: back(1)", b.back(1), STATE);
        Due.is("keep(0)", b.keep(0), 0);
        Due.is("keep(1)", b.keep(1), 0);
    }

    private static void backRefused() {
        Due.sentence("back: BAD");
        TippedBarrow b = Due.told("w2;r4 4;b0 0;");
        b.pushes(RIGHT);
        int[] bad = {-1, 2, MIN, MAX};
        for (int image : bad) {
            Due.is("none was kept: back(" + image + ")", b.back(image), BAD);
        }
        b.keep(0);
        b.keep(1);
        for (int image : bad) {
            Due.is("both were kept: back(" + image + ")", b.back(image), BAD);
        }
        Due.is("it may be UNDONE still", b.undo(), 0);
    }

    private static void noneWasKept() {
        Due.sentence("back. STATE: none was kept");
        Due.is("a new object: back(0)", new TippedBarrow().back(0), STATE);
        Due.is("a new object: back(1)", new TippedBarrow().back(1), STATE);
        for (int image = 0; image < 2; image++) {
            TippedBarrow b = Due.told("w2;r4 4;b0 0;");
            b.keep(image);
            b.pushes(RIGHT);
            Due.is("the other IMAGE", b.back(1 - image), STATE);
            Due.nows(b, "nothing changes", 1, 0, 1, 0, 0, 0, 0, 1);
            Due.is("this IMAGE", b.back(image), 0);
            Due.is("and again", b.back(image), 0);
        }
        TippedBarrow none = new TippedBarrow();
        Due.is("kept without CELLS", none.keep(0), 0);
        Due.is("back without CELLS", none.back(0), 0);
    }

    private static void keepsNow() {
        Due.sentence("IMAGES keep NOW (where, LEAN, who, TILTS, VERDICTS, OBJECTIONS); keep, back: all VERDICTS");
        for (int image = 0; image < 2; image++) {
            TippedBarrow b = Due.told("w3;r2 4 6;r4 5 4;b1 0;k2;");
            Due.pushed(b, LEFT, RIGHT, RIGHT);
            b.evens(2, 1, -3);
            b.pushes(DOWN);
            b.objects();
            b.objects();
            b.objects();
            Due.is("keep(" + image + ")", b.keep(image), 3);
            Due.nows(b, "kept", 6, 1, 0, 1, 2, 1, 2, 8);
            b.evens(2, 1, 4);
            Due.is("another VERDICT", b.pushes(RIGHT), 2);
            b.objects();
            Due.pushed(b, LEFT, LEFT);
            Due.nows(b, "ahead of back()", 1, 0, 1, 3, 3, 0, 0, 10);
            Due.is("back(" + image + ")", b.back(image), 3);
            Due.nows(b, "back", 6, 1, 0, 1, 2, 1, 2, 0);
            int[] tilts = {-3, 0, 4, 0, 1, -3};
            for (int i = 0; i < 6; i++) {
                Due.is("back: tilt of " + i, b.tilt(i % 3, i / 3), tilts[i]);
            }
        }
    }

    private static void imageIsACopy() {
        Due.sentence("IMAGES 0, 1: one is not the other, and neither is NOW");
        TippedBarrow b = Due.told("w3;r4 4 4;b1 0;k9;");
        b.keep(0);
        b.pushes(RIGHT);
        b.evens(0, 0, 3);
        b.keep(1);
        b.pushes(LEFT);
        b.evens(0, 0, -3);
        b.back(0);
        Due.is("IMAGE 0", b.now(0), 1);
        Due.is("its TILT", b.tilt(0, 0), 0);
        b.evens(0, 0, 1);
        b.pushes(LEFT);
        b.back(0);
        Due.is("IMAGE 0 again", b.now(0), 1);
        Due.is("its TILT", b.tilt(0, 0), 0);
        b.back(1);
        Due.is("IMAGE 1", b.now(0), 2);
        Due.is("its TILT", b.tilt(0, 0), 3);
        b.objects();
        b.back(1);
        Due.nows(b, "IMAGE 1 again", 2, 0, 1, 0, 0, 0, 0, 0);
    }

    private static void keptAnew() {
        Due.sentence("keep: an IMAGE is kept (in the old one's place)");
        TippedBarrow b = Due.told("w3;r2 4 6;b1 0;k2;");
        Due.is("keep(1)", b.keep(1), 0);
        b.pushes(RIGHT);
        Due.is("keep(1) again", b.keep(1), 1);
        b.pushes(LEFT);
        Due.is("back(1)", b.back(1), 1);
        Due.nows(b, "as kept latest", 1, 0, 0, 0, 1, 0, 0, 0);
        Due.is("the rut", b.tilt(2, 0), 3);
    }

    private static void keepsNothingElse() {
        Due.sentence("IMAGES keep NOW; nothing else");
        TippedBarrow b = Due.told("w2;r4 4;b0 0;k2;j3;");
        b.tells(RIGHT);
        b.keep(0);
        b.tells(RIGHT);
        Due.type(b, "w");
        b.rate(0, 0, 0);
        b.pushes(RIGHT);
        b.keep(1);
        b.back(0);
        Due.counts(b, "as ahead of back()", 2, 1, 0, 2, 3, 2, 1);
        Due.is("trace()", b.trace(), 1);
        Due.is("the other IMAGE", b.back(1), 0);
        Due.is("as it was kept", b.now(0), 1);
    }

    private static void keepChangesNothing() {
        Due.sentence("keep: what may be UNDONE stays");
        TippedBarrow b = Due.told("w2;r4 4;b0 0;");
        b.pushes(RIGHT);
        b.pushes(LEFT);
        b.keep(0);
        Due.is("two may be UNDONE", b.now(7), 2);
        Due.is("undo()", b.undo(), 1);
        Due.is("it is on", b.now(0), 1);
        Due.is("the IMAGE stays", b.back(0), 0);
        Due.is("it is on", b.now(0), 0);
    }

    private static void nothingUndoneBehindBack() {
        Due.sentence("(nothing can be UNDONE behind back())");
        TippedBarrow b = Due.told("w2;r4 4;b0 0;");
        b.keep(0);
        for (int i = 0; i < 12; i++) {
            b.pushes(i % 2 == 0 ? RIGHT : LEFT);
        }
        Due.is("ten may be UNDONE", b.now(7), 10);
        Due.is("back(0)", b.back(0), 0);
        Due.is("none may be UNDONE", b.now(7), 0);
        Due.is("undo()", b.undo(), STATE);
        b.pushes(RIGHT);
        Due.is("what came behind back() alone", b.undo(), 0);
        Due.is("no more", b.undo(), STATE);
        Due.is("as the IMAGE has it", b.now(0), 0);
    }
}
