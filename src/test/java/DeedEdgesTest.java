/** Section 2 (pushes, objections, cells made even, undoing) and promises 6 to 10: each sentence that names a boundary. */
public final class DeedEdgesTest {
    private static final int NO = TippedBarrow.NO, NONE = TippedBarrow.NONE, BAD = TippedBarrow.BAD;
    private static final int STATE = TippedBarrow.STATE;
    private static final int MAX = Integer.MAX_VALUE, MIN = Integer.MIN_VALUE;
    private static final int UP = 0, RIGHT = 1, DOWN = 2, LEFT = 3;
    private static final String LARGEST = "w5;r4 4 4 4 4;r4 4 4 4 4;r4 4 4 4 4;r4 4 4 4 4;";

    private DeedEdgesTest() {
    }

    public static void main(String[] args) {
        nowOutOfBounds();
        atFirst();
        inTurn();
        ways();
        wayOutOfBounds();
        noCellThere();
        noWrapAround();
        brickThere();
        pushWithoutStart();
        leanIsTiltAndLeaningMore();
        limitToTheLeft();
        limitToTheRight();
        beyondTheLimit();
        countedForThatSide();
        rutToTheLeft();
        rutToTheRight();
        rutOfTiltAlone();
        onStartAgain();
        whoLost();
        objectsWithoutStart();
        threeObjectionsOfEach();
        objectionsTillAVerdict();
        objectionIsNoPush();
        evenedTilts();
        evenedOutOfBounds();
        evenedWhereNoCellIs();
        itIsSo();
        evenedChangesNothingElse();
        undoOfNone();
        undoOfAPush();
        undoOfAVerdict();
        undoOfAnObjection();
        undoOfEvened();
        tenAreKnown();
        tenAgainBehindUndo();
        refusedIsNotUndone();
        undoIsNotUndone();
        theLastCall();
        Due.end();
    }

    /** Brings LEAN about on START (CELL 0) and CELL 1, both even at first: what the last push answered. */
    private static int lean(TippedBarrow b, int lean) {
        int rest = lean;
        int answer = 0;
        while (rest != 0 && answer == 0) {
            int part = Math.max(-4, Math.min(4, rest));
            b.evens(1, 0, part);
            answer = b.pushes(RIGHT);
            rest -= part;
            if (rest != 0 && answer == 0) {
                answer = b.pushes(LEFT);
            }
        }
        return answer;
    }

    private static void nowOutOfBounds() {
        Due.sentence("now: 0 where the barrow is .. 7 how many may be UNDONE. NO: BAD");
        TippedBarrow b = Due.told("w5;rxxxxx;r4 1 4 7 2;b2 1;k3;");
        Due.pushed(b, RIGHT, RIGHT, RIGHT, RIGHT, LEFT, LEFT, LEFT);
        b.objects();
        b.objects();
        b.objects();
        b.evens(3, 1, -2);
        b.pushes(RIGHT);
        Due.nows(b, "all", 8, -2, 1, 3, 4, 1, 2, 10);
        int[] bad = {-1, 8, MIN, MAX};
        for (int what : bad) {
            Due.is("now(" + what + ")", b.now(what), NO);
        }
    }

    private static void atFirst() {
        Due.sentence("The barrow is on START, LEAN is 0, the plaintiff (0) is to push, at first");
        Due.nows(Due.told("w2;r4 8;r6 8;b1 1;j4;"), "at first", 6, 0, 0, 0, 0, 0, 0, 0);
        Due.nows(Due.told("w2;r4 8;"), "no START", NONE, 0, 0, 0, 0, 0, 0, 0);
    }

    private static void inTurn() {
        Due.sentence("then the other one (1), and so on");
        TippedBarrow b = Due.told("w2;r4 4;b0 0;");
        for (int i = 1; i <= 6; i++) {
            b.pushes(i % 2 == 1 ? RIGHT : LEFT);
            Due.is("to push behind " + i, b.now(2), i % 2);
        }
    }

    // ---- the next CELL

    private static void ways() {
        Due.sentence("a WAY (0 up, y less 1; 1 right; 2 down; 3 left) to the next CELL: the barrow is on it");
        int[] cells = {2, 8, 12, 6};
        for (int way = 0; way < 4; way++) {
            TippedBarrow b = Due.told(LARGEST + "b2 1;");
            Due.is("pushes(" + way + ")", b.pushes(way), 0);
            Due.is("it is on", b.now(0), cells[way]);
            Due.is("and back", b.pushes((way + 2) % 4), 0);
            Due.is("it is on START", b.now(0), 7);
        }
    }

    private static void wayOutOfBounds() {
        Due.sentence("pushes: BAD");
        TippedBarrow b = Due.told(LARGEST + "b2 1;");
        int[] bad = {-1, 4, MIN, MAX};
        for (int way : bad) {
            Due.is("pushes(" + way + ")", b.pushes(way), BAD);
        }
        Due.nows(b, "nothing changes", 7, 0, 0, 0, 0, 0, 0, 0);
    }

    private static void noCellThere() {
        Due.sentence("pushes. STATE: no such CELL");
        int[][] ends = {{2, 0, UP}, {4, 1, RIGHT}, {2, 3, DOWN}, {0, 2, LEFT}};
        for (int[] end : ends) {
            TippedBarrow b = Due.told(LARGEST + "b" + end[0] + " " + end[1] + ";");
            Due.is("off the largest yard by " + end[2], b.pushes(end[2]), STATE);
            Due.nows(b, "nothing changes", 5 * end[1] + end[0], 0, 0, 0, 0, 0, 0, 0);
        }
        TippedBarrow small = Due.told("w1;r4;b0 0;");
        for (int way = 0; way < 4; way++) {
            Due.is("off the smallest yard by " + way, small.pushes(way), STATE);
        }
        TippedBarrow b = Due.told("w4;r4 4 4 4;r4 4 4 4;b3 1;");
        Due.is("beyond WIDE 4", b.pushes(RIGHT), STATE);
        Due.is("beyond 2 ROWS", b.pushes(DOWN), STATE);
        Due.is("it is there still", b.now(0), 8);
    }

    private static void noWrapAround() {
        Due.sentence("the next CELL (not one of the next ROW)");
        TippedBarrow b = Due.told("w5;rxxxx4;r4xxxx;b4 0;");
        Due.is("right of the last x", b.pushes(RIGHT), STATE);
        b = Due.told("w5;rxxxx4;r4xxxx;b0 1;");
        Due.is("left of the first x", b.pushes(LEFT), STATE);
        b = Due.told("w5;r4xxxx;rxxxxx;rxxxxx;r4xxxx;b0 0;");
        Due.is("above the first y", b.pushes(UP), STATE);
        b = Due.told("w5;r4xxxx;rxxxxx;rxxxxx;r4xxxx;b0 3;");
        Due.is("below the last y", b.pushes(DOWN), STATE);
    }

    private static void brickThere() {
        Due.sentence("pushes. STATE: a brick");
        TippedBarrow b = Due.told("w3;rxxx;rx4x;rxxx;b1 1;");
        for (int way = 0; way < 4; way++) {
            Due.is("pushes(" + way + ")", b.pushes(way), STATE);
        }
        Due.nows(b, "nothing changes", 6, 0, 0, 0, 0, 0, 0, 0);
    }

    private static void pushWithoutStart() {
        Due.sentence("pushes. STATE: no START");
        TippedBarrow fresh = new TippedBarrow();
        TippedBarrow b = Due.told("w2;r4 4;r4 4;");
        for (int way = 0; way < 4; way++) {
            Due.is("a new object: pushes(" + way + ")", fresh.pushes(way), STATE);
            Due.is("no START: pushes(" + way + ")", b.pushes(way), STATE);
        }
    }

    // ---- LEAN and VERDICTS

    private static void leanIsTiltAndLeaningMore() {
        Due.sentence("LEAN is its TILT and LEANING more");
        TippedBarrow b = Due.told("w2;r3 7;b0 0;k9;");
        int[] leans = {3, 2, 5, 4, 7, 6};
        for (int i = 0; i < leans.length; i++) {
            Due.is("push " + i, b.pushes(i % 2 == 0 ? RIGHT : LEFT), 0);
            Due.is("LEAN behind push " + i, b.now(1), leans[i]);
        }
        Due.is("9 of 9", b.pushes(RIGHT), 2);
        b = Due.told("w2;r8 0;b0 0;k9;j0;");
        Due.is("-4 and -2", Due.pushed(b, RIGHT), 0);
        Due.is("LEAN", b.now(1), -6);
        Due.is("4 and -2", Due.pushed(b, LEFT), 0);
        Due.is("LEAN", b.now(1), -4);
        Due.is("-4 and -2 again", Due.pushed(b, RIGHT), 1);
        b = Due.told("w2;r0 8;b0 0;k9;j4;");
        Due.is("4 and 2", Due.pushed(b, RIGHT), 0);
        Due.is("LEAN", b.now(1), 6);
        Due.is("-4 and 2", Due.pushed(b, LEFT), 0);
        Due.is("LEAN", b.now(1), 4);
        Due.is("4 and 2 again", Due.pushed(b, RIGHT), 2);
    }

    private static void limitToTheLeft() {
        Due.sentence("Is LEAN -LIMIT or less, it TIPS to the left");
        for (int limit = 2; limit <= 9; limit++) {
            TippedBarrow b = Due.told("w2;r4 4;b0 0;k" + limit + ";");
            Due.is("one more than -" + limit, lean(b, 1 - limit), 0);
            Due.is("LEAN then", b.now(1), 1 - limit);
            b = Due.told("w2;r4 4;b0 0;k" + limit + ";");
            Due.is("-" + limit, lean(b, -limit), 1);
            Due.is("LEAN then", b.now(1), 0);
        }
        Due.is("-4 where LIMIT is not told", lean(Due.told("w2;r4 4;b0 0;"), -4), 0);
        Due.is("-5 where LIMIT is not told", lean(Due.told("w2;r4 4;b0 0;"), -5), 1);
    }

    private static void limitToTheRight() {
        Due.sentence("is it LIMIT or more, to the right");
        for (int limit = 2; limit <= 9; limit++) {
            TippedBarrow b = Due.told("w2;r4 4;b0 0;k" + limit + ";");
            Due.is("one less than " + limit, lean(b, limit - 1), 0);
            Due.is("LEAN then", b.now(1), limit - 1);
            b = Due.told("w2;r4 4;b0 0;k" + limit + ";");
            Due.is("" + limit, lean(b, limit), 2);
            Due.is("LEAN then", b.now(1), 0);
        }
        Due.is("4 where LIMIT is not told", lean(Due.told("w2;r4 4;b0 0;"), 4), 0);
        Due.is("5 where LIMIT is not told", lean(Due.told("w2;r4 4;b0 0;"), 5), 2);
    }

    private static void beyondTheLimit() {
        Due.sentence("-LIMIT or less; LIMIT or more");
        Due.is("-6 at LIMIT 2", Due.told("w2;r4 0;b0 0;k2;j0;").pushes(RIGHT), 1);
        Due.is("6 at LIMIT 2", Due.told("w2;r4 8;b0 0;k2;j4;").pushes(RIGHT), 2);
        TippedBarrow b = Due.told("w2;r0 2;b0 0;k9;j0;");
        Due.is("-4 at LIMIT 9", b.pushes(RIGHT), 0);
        Due.is("-10 at LIMIT 9", b.pushes(LEFT), 1);
        b = Due.told("w2;r8 6;b0 0;k9;j4;");
        Due.is("4 at LIMIT 9", b.pushes(RIGHT), 0);
        Due.is("10 at LIMIT 9", b.pushes(LEFT), 2);
    }

    private static void countedForThatSide() {
        Due.sentence("a VERDICT (counted for that side)");
        TippedBarrow b = Due.told("w3;r0 4 8;b1 0;k2;");
        for (int i = 1; i <= 30; i++) {
            Due.is("to the left", b.pushes(LEFT), 1);
            Due.is("to the right", b.pushes(RIGHT), 2);
            Due.is("to the right again", b.pushes(RIGHT), 2);
            Due.is("VERDICTS to the left", b.now(3), i);
            Due.is("VERDICTS to the right", b.now(4), 2 * i);
        }
        Due.is("none is counted without one", Due.told("w2;r4 5;b0 0;").pushes(RIGHT), 0);
    }

    private static void rutToTheLeft() {
        Due.sentence("TILT of that CELL is 1 less (left), -4 .. 4");
        TippedBarrow b = Due.told("w2;r4 2;b0 0;k2;");
        int[] tilts = {-3, -4, -4, -4};
        for (int i = 0; i < tilts.length; i++) {
            Due.is("to the left " + i, b.pushes(RIGHT), 1);
            Due.is("its TILT " + i, b.tilt(1, 0), tilts[i]);
            Due.is("no other TILT " + i, b.tilt(0, 0), 0);
        }
    }

    private static void rutToTheRight() {
        Due.sentence("TILT of that CELL is 1 more (right), -4 .. 4");
        TippedBarrow b = Due.told("w2;r4 6;b0 0;k2;");
        int[] tilts = {3, 4, 4, 4};
        for (int i = 0; i < tilts.length; i++) {
            Due.is("to the right " + i, b.pushes(RIGHT), 2);
            Due.is("its TILT " + i, b.tilt(1, 0), tilts[i]);
            Due.is("no other TILT " + i, b.tilt(0, 0), 0);
        }
    }

    private static void rutOfTiltAlone() {
        Due.sentence("TILT of that CELL is 1 less or more, LEANING or not, and of START as of any");
        TippedBarrow b = Due.told("w2;r4 4;b0 0;k2;j4;");
        Due.is("to the right by LEANING alone", b.pushes(RIGHT), 2);
        Due.is("TILT was 0", b.tilt(1, 0), 1);
        b = Due.told("w2;r5 5;b0 0;k2;j0;");
        Due.is("-1 by LEANING", b.pushes(RIGHT), 0);
        Due.is("to the left, on START, uphill", b.pushes(LEFT), 1);
        Due.is("TILT was 1", b.tilt(0, 0), 0);
        Due.is("the CELL ahead has no rut", b.tilt(1, 0), 1);
    }

    private static void onStartAgain() {
        Due.sentence("the barrow is on START again, LEAN is 0");
        TippedBarrow b = Due.told("w4;r4 4 5 6;r4 4 4 4;b0 1;k3;");
        Due.is("it tips", Due.pushed(b, RIGHT, RIGHT, UP, RIGHT), 2);
        Due.nows(b, "then", 5, 0, 0, 0, 1, 0, 0, 4);
        Due.is("LEAN starts anew", Due.pushed(b, RIGHT, RIGHT, UP), 0);
        Due.is("LEAN", b.now(1), 1);
    }

    private static void whoLost() {
        Due.sentence("the next to push is the one who lost (left: 1 lost; right: 0)");
        TippedBarrow b = Due.told("w3;r2 4 6;b1 0;k2;");
        int[] sides = {1, 1, 2, 2, 1, 2, 1};
        for (int side : sides) {
            int mover = b.now(2);
            Due.is("pushed by " + mover, b.pushes(side == 1 ? LEFT : RIGHT), side);
            Due.is("to push behind " + side + " by " + mover, b.now(2), side == 1 ? 1 : 0);
        }
    }

    // ---- OBJECTIONS

    private static void objectsWithoutStart() {
        Due.sentence("objects. STATE: no START");
        TippedBarrow fresh = new TippedBarrow();
        Due.is("a new object", fresh.objects(), STATE);
        TippedBarrow b = Due.told("w2;r4 4;");
        Due.is("CELLS, but no START", b.objects(), STATE);
        Due.nows(b, "nothing changes", NONE, 0, 0, 0, 0, 0, 0, 0);
    }

    private static void threeObjectionsOfEach() {
        Due.sentence("OBJECTION (3 at most of each); objects: who is to push then. STATE: there were 3 of his");
        TippedBarrow b = Due.told("w2;r4 4;b0 0;");
        for (int i = 1; i <= 6; i++) {
            Due.is("objects() " + i, b.objects(), i % 2);
            Due.nows(b, "behind " + i, 0, 0, i % 2, 0, 0, (i + 1) / 2, i / 2, i);
        }
        Due.is("a fourth of the plaintiff's", b.objects(), STATE);
        Due.nows(b, "nothing changes", 0, 0, 0, 0, 0, 3, 3, 6);
        b.pushes(RIGHT);
        Due.is("a fourth of the other's", b.objects(), STATE);
        Due.nows(b, "nothing changes", 1, 0, 1, 0, 0, 3, 3, 7);
        b = Due.told("w2;r4 4;b0 0;");
        for (int i = 0; i < 3; i++) {
            Due.is("his own alone", b.objects(), 1);
            b.pushes(i % 2 == 0 ? RIGHT : LEFT);
        }
        Due.is("3 of his", b.objects(), STATE);
        b.pushes(LEFT);
        Due.is("none of the other's yet", b.objects(), 0);
        Due.is("3 of the plaintiff's", b.now(5), 3);
        Due.is("1 of the other's", b.now(6), 1);
    }

    private static void objectionsTillAVerdict() {
        Due.sentence("OBJECTION (3 at most of each till a VERDICT)");
        for (int side = 1; side <= 2; side++) {
            TippedBarrow b = Due.told("w3;r2 4 6;b1 0;k2;");
            for (int i = 0; i < 6; i++) {
                b.objects();
            }
            Due.is("there were 3", b.objects(), STATE);
            Due.is("a VERDICT", b.pushes(side == 1 ? LEFT : RIGHT), side);
            Due.is("the plaintiff's", b.now(5), 0);
            Due.is("the other's", b.now(6), 0);
            for (int i = 1; i <= 6; i++) {
                Due.is("anew " + i, b.objects(), (side + 1 + i) % 2 == 1 ? 0 : 1);
            }
            Due.is("there were 3 again", b.objects(), STATE);
        }
        TippedBarrow b = Due.told("w3;r2 4 4;b1 0;k2;");
        b.objects();
        b.pushes(RIGHT);
        Due.is("a push that does not tip it ends none", b.now(5), 1);
    }

    private static void objectionIsNoPush() {
        Due.sentence("OBJECTION: whoever is to push does not; the other one is to push");
        TippedBarrow b = Due.told("w2;r4 5;b0 0;");
        b.pushes(RIGHT);
        Due.is("objects()", b.objects(), 0);
        Due.nows(b, "where it was, as it leaned", 1, 1, 0, 0, 0, 0, 1, 2);
        Due.is("objects() back", b.objects(), 1);
        Due.nows(b, "where it was, as it leaned", 1, 1, 1, 0, 0, 1, 1, 3);
    }

    // ---- EVENED

    private static void evenedTilts() {
        Due.sentence("evens: EVENED (-4 .. 4): what TILT was");
        TippedBarrow b = Due.told("w1;r8;");
        int was = 4;
        for (int t = -4; t <= 4; t++) {
            Due.is("evens(0, 0, " + t + ")", b.evens(0, 0, t), was);
            Due.is("TILT", b.tilt(0, 0), t);
            was = t;
        }
    }

    private static void evenedOutOfBounds() {
        Due.sentence("evens (-4 .. 4). NO: BAD");
        TippedBarrow b = Due.told("w2;r4 4;b0 0;");
        int[] bad = {-5, 5, MIN, MAX, 100, NO};
        for (int t : bad) {
            Due.is("evens(0, 0, " + t + ")", b.evens(0, 0, t), NO);
        }
        Due.is("TILT", b.tilt(0, 0), 0);
        Due.is("nothing to be UNDONE", b.now(7), 0);
    }

    private static void evenedWhereNoCellIs() {
        Due.sentence("evens: EVENED: a CELL (no brick). NO: BAD, a brick");
        TippedBarrow b = Due.told("w2;r4 x;r4 4;b0 0;");
        int[][] none = {{1, 0}, {-1, 0}, {2, 0}, {0, -1}, {0, 2}, {5, 0}, {-5, 1}, {4, 3}, {0, 4}, {MAX, 0}, {0, MIN}, {MIN, MAX}};
        for (int[] cell : none) {
            Due.is("evens(" + cell[0] + ", " + cell[1] + ", 1)", b.evens(cell[0], cell[1], 1), NO);
        }
        Due.is("a brick is a brick", b.tilt(1, 0), NO);
        Due.is("it can't be pushed to", b.pushes(RIGHT), STATE);
        Due.is("nothing to be UNDONE", b.now(7), 0);
        Due.is("the last x and y", b.evens(1, 1, 1), 0);
    }

    private static void itIsSo() {
        Due.sentence("EVENED: a CELL gets ANOTHER TILT. evens. NO: it is so");
        TippedBarrow b = Due.told("w1;r0;b0 0;");
        Due.is("it is -4", b.evens(0, 0, -4), NO);
        Due.is("nothing to be UNDONE", b.now(7), 0);
        Due.is("it is not -3", b.evens(0, 0, -3), -4);
        Due.is("it is -3 now", b.evens(0, 0, -3), NO);
        Due.is("one deed", b.now(7), 1);
        Due.is("it was -3", b.evens(0, 0, 0), -3);
        Due.is("it is 0", b.evens(0, 0, 0), NO);
    }

    private static void evenedChangesNothingElse() {
        Due.sentence("EVENED: its TILT alone; START need not be told");
        TippedBarrow b = Due.told("w3;r4 5 4;r4 4 4;b0 0;k2;");
        b.pushes(RIGHT);
        Due.is("the CELL that it is on", b.evens(1, 0, 4), 1);
        Due.nows(b, "then", 1, 1, 1, 0, 0, 0, 0, 2);
        for (int i = 0; i < 6; i++) {
            Due.is("tilt of " + i, b.tilt(i % 3, i / 3), i == 1 ? 4 : 0);
        }
        Due.is("no START", Due.told("w1;r5;").evens(0, 0, 2), 1);
    }

    // ---- UNDONE

    private static void undoOfNone() {
        Due.sentence("undo. STATE: none");
        Due.is("a new object", new TippedBarrow().undo(), STATE);
        TippedBarrow b = Due.told("w2;r4 4;b0 0;");
        Due.is("a yard just read", b.undo(), STATE);
        b.pushes(RIGHT);
        Due.is("one deed", b.undo(), 0);
        Due.is("none any more", b.undo(), STATE);
        Due.nows(b, "nothing changes", 0, 0, 0, 0, 0, 0, 0, 0);
    }

    private static void undoOfAPush() {
        Due.sentence("UNDONE: the latest pushes()");
        TippedBarrow b = Due.told("w3;r4 5 6;b0 0;k9;");
        Due.pushed(b, RIGHT, RIGHT);
        Due.nows(b, "ahead", 2, 3, 0, 0, 0, 0, 0, 2);
        Due.is("undo()", b.undo(), 1);
        Due.nows(b, "one push UNDONE", 1, 1, 1, 0, 0, 0, 0, 1);
        Due.is("undo() again", b.undo(), 0);
        Due.nows(b, "both UNDONE", 0, 0, 0, 0, 0, 0, 0, 0);
    }

    private static void undoOfAVerdict() {
        Due.sentence("UNDONE: the latest pushes(), its VERDICT and rut, too");
        for (int side = 1; side <= 2; side++) {
            TippedBarrow b = Due.told(side == 1 ? "w3;r4 3 3;b0 0;k2;" : "w3;r4 5 5;b0 0;k2;");
            b.objects();
            b.pushes(RIGHT);
            b.objects();
            Due.is("it tips", b.pushes(RIGHT), side);
            int lean = side == 1 ? -1 : 1;
            Due.is("the rut", b.tilt(2, 0), 2 * lean);
            Due.is("undo()", b.undo(), 3);
            Due.nows(b, "UNDONE", 1, lean, 1, 0, 0, 2, 0, 3);
            Due.is("no rut", b.tilt(2, 0), lean);
        }
    }

    private static void undoOfAnObjection() {
        Due.sentence("UNDONE: the latest objects()");
        TippedBarrow b = Due.told("w2;r4 5;b0 0;");
        b.pushes(RIGHT);
        for (int i = 0; i < 6; i++) {
            b.objects();
        }
        Due.is("there were 3", b.objects(), STATE);
        Due.is("undo()", b.undo(), 6);
        Due.nows(b, "UNDONE", 1, 1, 0, 0, 0, 2, 3, 6);
        Due.is("it may be again", b.objects(), 1);
        for (int i = 6; i >= 1; i--) {
            Due.is("undo() to " + i, b.undo(), i);
        }
        Due.nows(b, "all UNDONE", 1, 1, 1, 0, 0, 0, 0, 1);
    }

    private static void undoOfEvened() {
        Due.sentence("UNDONE: the latest evens()");
        TippedBarrow b = Due.told("w2;r0 8;");
        b.evens(0, 0, 4);
        b.evens(1, 0, -4);
        b.evens(0, 0, 0);
        Due.is("undo()", b.undo(), 2);
        Due.is("tilt(0, 0)", b.tilt(0, 0), 4);
        Due.is("tilt(1, 0)", b.tilt(1, 0), -4);
        Due.is("undo() again", b.undo(), 1);
        Due.is("tilt(1, 0)", b.tilt(1, 0), 4);
        Due.is("undo() of all", b.undo(), 0);
        Due.is("tilt(0, 0)", b.tilt(0, 0), -4);
    }

    private static void tenAreKnown() {
        Due.sentence("(10 are known, older ones are lost); undo: how many more may be");
        for (int deeds = 9; deeds <= 12; deeds++) {
            TippedBarrow b = Due.told("w5;r4 4 4 4 4;r4 4 4 4 4;r4 4 4 4 4;b0 0;");
            for (int i = 0; i < deeds; i++) {
                b.evens(i % 5, i / 5, 1);
                Due.is("known behind " + (i + 1), b.now(7), Math.min(10, i + 1));
            }
            int known = Math.min(10, deeds);
            for (int i = known - 1; i >= 0; i--) {
                Due.is("undo() of " + deeds, b.undo(), i);
            }
            Due.is("no more of " + deeds, b.undo(), STATE);
            for (int i = 0; i < 12; i++) {
                Due.is("tilt of " + i + " of " + deeds, b.tilt(i % 5, i / 5), i < deeds - known ? 1 : 0);
            }
        }
    }

    private static void tenAgainBehindUndo() {
        Due.sentence("(10 are known), behind undo(), too");
        TippedBarrow b = Due.told("w2;r4 4;b0 0;");
        for (int i = 0; i < 25; i++) {
            b.pushes(i % 2 == 0 ? RIGHT : LEFT);
        }
        for (int i = 9; i >= 5; i--) {
            Due.is("undo()", b.undo(), i);
        }
        for (int i = 1; i <= 7; i++) {
            Due.is("evens()", b.evens(0, 0, i % 5), (i - 1) % 5);
            Due.is("known", b.now(7), Math.min(10, 5 + i));
        }
        for (int i = 6; i >= 0; i--) {
            b.undo();
            Due.is("TILT behind " + i, b.tilt(0, 0), i % 5);
        }
        Due.is("as behind 20 pushes", b.now(0), 0);
        for (int i = 2; i >= 0; i--) {
            Due.is("undo() of a push", b.undo(), i);
            Due.is("it is on", b.now(0), 1 - i % 2);
        }
        Due.is("the oldest are lost", b.undo(), STATE);
    }

    private static void refusedIsNotUndone() {
        Due.sentence("UNDONE: the latest that was not refused");
        TippedBarrow b = Due.told("w2;r4 4;b0 0;");
        b.evens(0, 0, 3);
        for (int i = 0; i < 6; i++) {
            b.objects();
        }
        int[] refused = {b.pushes(UP), b.pushes(4), b.objects(), b.evens(0, 0, 3), b.evens(0, 0, 5), b.evens(2, 0, 0)};
        int[] due = {STATE, BAD, STATE, NO, NO, NO};
        for (int i = 0; i < due.length; i++) {
            Due.is("refused " + i, refused[i], due[i]);
        }
        Due.is("seven may be UNDONE", b.now(7), 7);
        Due.is("the latest is the sixth objects()", b.undo(), 6);
        Due.nows(b, "UNDONE", 0, 0, 1, 0, 0, 3, 2, 6);
    }

    private static void undoIsNotUndone() {
        Due.sentence("UNDONE: pushes(), objects(), evens() alone");
        TippedBarrow b = Due.told("w2;r4 4;b0 0;");
        b.pushes(RIGHT);
        b.keep(0);
        b.tells(1);
        b.forget();
        b.would(LEFT);
        b.type('w');
        b.clear();
        b.rate(0, 0, 0);
        Due.is("one may be UNDONE", b.now(7), 1);
        Due.is("undo()", b.undo(), 0);
        Due.is("not undo() itself", b.undo(), STATE);
        Due.is("it is on START", b.now(0), 0);
        Due.is("the push may be done again", b.pushes(RIGHT), 0);
        Due.is("and is known alone", b.now(7), 1);
    }

    private static void theLastCall() {
        Due.sentence("An object is used for at most 512 calls; VERDICTS (999 at most)");
        String text = "w2;r4 6;b0 0;k2;";
        TippedBarrow b = Due.told(text);
        int pushes = 512 - text.length() - 1 - 1;
        for (int i = 1; i <= pushes; i++) {
            Due.is("VERDICT " + i, b.pushes(RIGHT), 2);
        }
        Due.is("the 512th call", b.now(4), 494);
    }
}
