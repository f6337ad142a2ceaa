/** Section 1 (the text, the yard) and promises 1 to 5 and 23: each sentence that names a boundary. */
public final class TextEdgesTest {
    private static final int NO = TippedBarrow.NO, NONE = TippedBarrow.NONE, BAD = TippedBarrow.BAD;
    private static final int STATE = TippedBarrow.STATE, FULL = TippedBarrow.FULL;
    private static final int MAX = Integer.MAX_VALUE, MIN = Integer.MIN_VALUE;

    private TextEdgesTest() {
    }

    public static void main(String[] args) {
        constants();
        newObject();
        letterOutOfBounds();
        fullText();
        cleared();
        itemsNone();
        textIsEmptyThen();
        textStays();
        faultsFromFirstToLastPlace();
        blanks();
        blanksBetweenNumbersAlone();
        endedBySemicolon();
        wide();
        wideFirstOrNotTold();
        rowBehindWideAheadOfStart();
        fifthRow();
        cellsTooFew();
        cellsTooMany();
        cellNumbers();
        cellNoNumber();
        startX();
        startY();
        startOnBrick();
        startOnce();
        limit();
        limitOnce();
        leaning();
        leaningOnce();
        numberAbove99();
        zeroAhead();
        brickWhereNoCellCanStand();
        otherLetters();
        numberWhereNoneCanStand();
        firstOfTwoFaults();
        endsTooEarly();
        withoutStart();
        numberOfACell();
        tiltOfACell();
        noSuchCell();
        countOutOfBounds();
        readAnewAsToldElseAsAtFirst();
        readAnewAllGone();
        Due.end();
    }

    private static void constants() {
        Due.sentence("BAD = -1, STATE = -2, FULL = -3, NONE = -9; NO = -1000000");
        Due.is("BAD", BAD, -1);
        Due.is("STATE", STATE, -2);
        Due.is("FULL", FULL, -3);
        Due.is("NONE", NONE, -9);
        Due.is("NO", NO, -1000000);
    }

    private static void newObject() {
        Due.sentence("TippedBarrow(): as told; no CELLS");
        TippedBarrow b = new TippedBarrow();
        Due.nows(b, "new", NONE, 0, 0, 0, 0, 0, 0, 0);
        Due.counts(b, "new", 0, 0, NONE, 5, 2, 0, 0);
        Due.is("new: trace()", b.trace(), 0);
        for (int i = 0; i < 20; i++) {
            Due.is("new: tilt of " + i, b.tilt(i % 5, i / 5), NO);
        }
    }

    // ---- the letters

    private static void letterOutOfBounds() {
        Due.sentence("type: a letter (0 .. 255); BAD");
        TippedBarrow b = new TippedBarrow();
        int[] bad = {-1, 256, MIN, MAX, -256, 512 + 'w'};
        for (int letter : bad) {
            Due.is("type(" + letter + ")", b.type(letter), BAD);
        }
        Due.is("no letter came to it", b.count(6), 0);
        Due.is("type(0)", b.type(0), 1);
        Due.is("type(255)", b.type(255), 2);
    }

    private static void fullText() {
        Due.sentence("a text (120 letters at most); type: how many it has; FULL");
        TippedBarrow b = new TippedBarrow();
        for (int i = 1; i <= 120; i++) {
            Due.is("letter " + i, b.type(i == 120 ? 'w' : ' '), i);
        }
        Due.is("letter 121", b.type(' '), FULL);
        Due.is("letter 122", b.type(0), FULL);
        Due.is("it has", b.count(6), 120);
        Due.is("the last letter is the 120th", b.yard(), -130);
        Due.is("it is full still", b.type(' '), FULL);
    }

    private static void cleared() {
        Due.sentence("clear: THE TEXT is empty: how many letters it had");
        TippedBarrow b = new TippedBarrow();
        Due.is("an empty one", b.clear(), 0);
        Due.type(b, "w");
        Due.is("one letter", b.clear(), 1);
        Due.is("it is empty", b.count(6), 0);
        Due.type(b, "k2;".repeat(40));
        Due.is("a full one", b.clear(), 120);
        Due.is("cleared twice", b.clear(), 0);
        Due.is("a letter comes to it again", b.type('k'), 1);
        Due.type(b, "3;");
        Due.is("nothing of the old one stands ahead or behind", b.yard(), 1);
        Due.is("it is what was typed behind clear()", b.count(3), 3);
    }

    // ---- the text

    private static void itemsNone() {
        Due.sentence("ITEMS (none, too); yard: how many ITEMS");
        Due.right("", 0);
        Due.right(" ", 0);
        Due.right(" ".repeat(120), 0);
        Due.right("k2;", 1);
        Due.right("w1;", 1);
        Due.right("w1;r4;r4;r4;r4;b0 0;k2;j2;", 8);
        Due.right("w1;r4;k2;r4;j2;r4;r4;b0 0;", 8);
    }

    private static void textIsEmptyThen() {
        Due.sentence("yard: THE TEXT tells all anew, and is empty then");
        TippedBarrow b = Due.typed("w2;k3;");
        Due.is("yard()", b.yard(), 2);
        Due.is("count(6)", b.count(6), 0);
        Due.is("clear()", b.clear(), 0);
        Due.is("the first letter of another", b.type('k'), 1);
        b.clear();
        Due.is("yard() of the empty one tells that there is nothing", b.yard(), 0);
        Due.counts(b, "nothing is told", 0, 0, NONE, 5);
    }

    private static void textStays() {
        Due.sentence("yard: -10 less FAULT: nothing changes (THE TEXT stays, too)");
        TippedBarrow b = Due.told("w3;r4 5 3;b1 0;k2;j3;");
        Due.pushed(b, 1, 3);
        b.keep(1);
        b.tells(2);
        Due.type(b, "w2;r8 8;b0 0;k9;j0;r");
        Due.is("yard()", b.yard(), -29);
        Due.is("yard() again", b.yard(), -29);
        Due.counts(b, "refused", 3, 1, 1, 2, 3, 1, 20);
        Due.nows(b, "refused", 1, 0, 0, 0, 1, 0, 0, 2);
        Due.is("tilt(1, 0), with its rut", b.tilt(1, 0), 2);
        Due.is("tilt(2, 0)", b.tilt(2, 0), -1);
        Due.is("one more letter", b.type('x'), 21);
        Due.is("yard() still", b.yard(), -29);
        Due.is("undo()", b.undo(), 1);
        Due.is("back(1)", b.back(1), 1);
    }

    private static void faultsFromFirstToLastPlace() {
        Due.sentence("FAULT: the place (the first letter's is 0)");
        Due.fault(";", 0);
        Due.fault(" ;", 1);
        Due.fault(" ".repeat(119) + ";", 119);
        Due.fault(" ".repeat(119) + "w", 120);
    }

    private static void blanks() {
        Due.sentence("blanks (32), any number, ahead of, between, behind TOKENS");
        Due.right("w2;r4x;rx4;b0 0;k2;j0;", 6);
        Due.right("   w   2   ;  r  4  x  ;  b  0  0  ;  k  2  ;  j  0  ;   ", 5);
        Due.right(" w2;", 1);
        Due.right("w 2;", 1);
        Due.right("w2 ;", 1);
        Due.right("w2; ", 1);
        Due.right("w" + " ".repeat(117) + "2;", 1);
        Due.fault("  w  6;", 5);
    }

    private static void blanksBetweenNumbersAlone() {
        Due.sentence("blanks are needed only between two NUMBERS");
        Due.right("w3;r4x4;b0 0;", 3);
        Due.fault("w2;r44;", 4);
        Due.fault("w2;r4 4;b00;", 9);
        Due.fault("w2;r4 4;b10;", 9);
        // A blank ends a NUMBER, so these are two.
        Due.fault("k 1 0;", 2);
        Due.fault("k9 9;", 3);
        Due.fault("w1 2;", 3);
    }

    private static void endedBySemicolon() {
        Due.sentence("ITEMS, each ended by ;");
        Due.fault("w2", 2);
        Due.fault("w2 k3;", 3);
        Due.fault("w2;r4 4b0 0;", 7);
        Due.fault("k3j2;", 2);
        Due.fault("w2;;", 3);
        Due.fault(";w2;", 0);
        Due.fault("w2;r4 4;b0 0k2;", 12);
    }

    // ---- w

    private static void wide() {
        Due.sentence("w N: WIDE (1 .. 5)");
        for (int wide = 1; wide <= 5; wide++) {
            TippedBarrow b = Due.told("w" + wide + ";");
            Due.is("count(0) of " + wide, b.count(0), wide);
        }
        for (int wide = 0; wide <= 99; wide = wide == 0 ? 6 : wide + 1) {
            Due.fault("w" + wide + ";", 1);
        }
        Due.fault("w;", 1);
        Due.fault("wr;", 1);
    }

    private static void wideFirstOrNotTold() {
        Due.sentence("w: the first of all ITEMS, or not told (w behind another ITEM)");
        Due.right("k5;", 1);
        Due.right("j1;k5;", 2);
        Due.fault("k5;w2;", 3);
        Due.fault("j2;w2;", 3);
        Due.fault("w2;w2;", 3);
        Due.fault("w1;r4;w1;", 6);
        Due.fault("w1;r4;b0 0;w1;", 11);
    }

    // ---- r

    private static void rowBehindWideAheadOfStart() {
        Due.sentence("r: behind w, ahead of b (r ahead of w or behind b)");
        Due.fault("r4;", 0);
        Due.fault("r;", 0);
        Due.fault("k2;r4;", 3);
        Due.fault("w1;r4;b0 0;r4;", 11);
        Due.fault("w1;r4;b0 0;k2;r4;", 14);
        Due.right("w1;k2;r4;j2;r4;", 5);
    }

    private static void fifthRow() {
        Due.sentence("as many ROWS of them as are told (4 at most; a fifth ROW)");
        for (int rows = 0; rows <= 4; rows++) {
            TippedBarrow b = Due.told("w1;" + "r4;".repeat(rows));
            Due.is("count(1) of " + rows, b.count(1), rows);
            for (int y = 0; y < 5; y++) {
                Due.is("tilt(0, " + y + ") of " + rows, b.tilt(0, y), y < rows ? 0 : NO);
            }
        }
        Due.fault("w1;r4;r4;r4;r4;r4;", 15);
        Due.fault("w1;r4;r4;r4;r4;k2;r", 18);
    }

    private static void cellsTooFew() {
        Due.sentence("r and WIDE CELLS (a CELL too few)");
        Due.fault("w1;r;", 4);
        Due.fault("w2;r4;", 5);
        Due.fault("w2;rx;", 5);
        Due.fault("w5;r4 4 4 4;", 11);
        Due.fault("w5;r4 4 4 4 b;", 12);
        Due.fault("w2;r4 4;r4;", 10);
    }

    private static void cellsTooMany() {
        Due.sentence("r and WIDE CELLS (a CELL too many)");
        Due.fault("w1;r4 4;", 6);
        Due.fault("w1;r4x;", 5);
        Due.fault("w5;r4 4 4 4 4 4;", 14);
        Due.fault("w5;rxxxxxx;", 9);
        Due.right("w1;r4;", 2);
        Due.right("w5;r4 4 4 4 4;", 2);
    }

    private static void cellNumbers() {
        Due.sentence("CELLS, each a NUMBER 0 .. 8 (TILT and 4): TILT (-4 .. 4)");
        for (int number = 0; number <= 8; number++) {
            TippedBarrow b = Due.told("w1;r" + number + ";");
            Due.is("tilt(0, 0) of " + number, b.tilt(0, 0), number - 4);
        }
        for (int number = 9; number <= 99; number++) {
            Due.fault("w1;r" + number + ";", 4);
        }
        Due.fault("w2;r4 9;", 6);
        Due.fault("w2;r9 4;", 4);
    }

    private static void cellNoNumber() {
        Due.sentence("CELLS, each a NUMBER or x (a brick); else FAULT");
        Due.right("w1;rx;", 2);
        Due.right("w5;rxxxxx;rxxxxx;rxxxxx;rxxxxx;", 5);
        Due.fault("w1;rr;", 4);
        Due.fault("w1;rk;", 4);
        Due.fault("w2;r4 w", 6);
    }

    // ---- b

    private static void startX() {
        Due.sentence("b X Y: x (0 .. WIDE less 1)");
        for (int x = 0; x < 5; x++) {
            Due.is("START of x " + x, Due.told("w5;r4 4 4 4 4;b" + x + " 0;").count(2), x);
        }
        for (int x = 5; x <= 99; x++) {
            Due.fault("w5;r4 4 4 4 4;b" + x + " 0;", 15);
        }
        Due.fault("w1;r4;b1 0;", 7);
        Due.fault("w4;r4 4 4 4;r4 4 4 4;b4 0;", 22);
        Due.fault("b0 0;", 1);
        Due.fault("w1;r4;b;", 7);
        Due.fault("w1;r4;bx 0;", 7);
    }

    private static void startY() {
        Due.sentence("b X Y: as many ROWS as are told");
        for (int y = 0; y < 4; y++) {
            Due.is("START of y " + y, Due.told("w1;r4;r4;r4;r4;b0 " + y + ";").count(2), 5 * y);
        }
        for (int y = 4; y <= 99; y++) {
            Due.fault("w1;r4;r4;r4;r4;b0 " + y + ";", 18);
        }
        Due.fault("w1;r4;b0 1;", 9);
        Due.fault("w1;r4;r4;r4;b0 3;", 15);
        Due.fault("w1;b0 0;", 6);
        Due.fault("w1;r4;b0;", 8);
        Due.fault("w1;r4;b0 x;", 9);
    }

    private static void startOnBrick() {
        Due.sentence("b: no brick, else FAULT at Y");
        Due.fault("w1;rx;b0 0;", 9);
        Due.fault("w1;rx;b 0  0 ;", 11);
        Due.fault("w2;r4 x;rx 4;b1 0;", 16);
        Due.fault("w2;r4 x;rx 4;b0 1;", 16);
        Due.right("w2;r4 x;rx 4;b1 1;", 4);
        // X can't be beyond WIDE either, which stands ahead of Y.
        Due.fault("w1;rx;b1 0;", 7);
    }

    private static void startOnce() {
        Due.sentence("b: once (b again)");
        Due.fault("w1;r4;b0 0;b0 0;", 11);
        Due.fault("w1;r4;b0 0;k2;b0 0;", 14);
    }

    // ---- k, j

    private static void limit() {
        Due.sentence("k N: LIMIT (2 .. 9; 5 at first)");
        for (int limit = 2; limit <= 9; limit++) {
            Due.is("count(3) of " + limit, Due.told("k" + limit + ";").count(3), limit);
        }
        Due.is("count(3) where it is not told", Due.told("w1;r4;").count(3), 5);
        for (int limit = 0; limit <= 99; limit = limit == 1 ? 10 : limit + 1) {
            Due.fault("k" + limit + ";", 1);
        }
        Due.fault("k;", 1);
        Due.fault("kx;", 1);
    }

    private static void limitOnce() {
        Due.sentence("k: once at most (k again)");
        Due.fault("k2;k2;", 3);
        Due.fault("k5;k5;", 3);
        Due.fault("w1;k9;r4;b0 0;j2;k9;", 17);
    }

    private static void leaning() {
        Due.sentence("j N (0 .. 4: LEANING and 2): LEANING (-2 .. 2; 0 at first)");
        int[] leans = {-2, -1, 0, 1, 2};
        for (int j = 0; j <= 4; j++) {
            TippedBarrow b = Due.told("w2;r4 4;b0 0;k9;j" + j + ";");
            Due.is("count(4) of " + j, b.count(4), j);
            b.pushes(1);
            Due.is("LEAN by " + j, b.now(1), leans[j]);
        }
        TippedBarrow b = Due.told("w2;r4 4;b0 0;");
        Due.is("count(4) where it is not told", b.count(4), 2);
        b.pushes(1);
        Due.is("LEAN where it is not told", b.now(1), 0);
        for (int number = 5; number <= 99; number++) {
            Due.fault("j" + number + ";", 1);
        }
        Due.fault("j;", 1);
        Due.fault("jx;", 1);
    }

    private static void leaningOnce() {
        Due.sentence("j: once at most (j again)");
        Due.fault("j2;j2;", 3);
        Due.fault("j0;k2;j0;", 6);
    }

    // ---- other FAULTS

    private static void numberAbove99() {
        Due.sentence("FAULT: a NUMBER above 99, that TOKEN's");
        Due.fault("k100;", 1);
        Due.fault("100;", 0);
        Due.fault("w1;r100;", 4);
        Due.fault("w2;r4 104;", 6);
        Due.fault("w1;r4;b100 0;", 7);
        Due.fault("w1;r4;b0 100;", 9);
        Due.fault("k99;", 1);
        // Such as would be right were a NUMBER kept in too small a place.
        Due.fault("k102;", 1);
        Due.fault("k258;", 1);
        Due.fault("k65538;", 1);
        Due.fault("k4294967298;", 1);
        Due.fault("k18446744073709551618;", 1);
        Due.fault("k1" + "0".repeat(90) + "2;", 1);
    }

    private static void zeroAhead() {
        Due.sentence("FAULT: a NUMBER with a 0 ahead of others, that TOKEN's");
        Due.fault("w02;", 1);
        Due.fault("k 05;", 2);
        Due.fault("j00;", 1);
        Due.fault("j002;", 1);
        Due.fault("w1;r00;", 4);
        Due.fault("w2;r4 08;", 6);
        Due.fault("w1;r4;b00 0;", 7);
        Due.fault("w1;r4;b0 00;", 9);
        Due.fault("k009;", 1);
        Due.right("j0;", 1);
        Due.right("w1;r0;b0 0;", 3);
    }

    private static void brickWhereNoCellCanStand() {
        Due.sentence("FAULT: x where no CELL can stand");
        Due.fault("x", 0);
        Due.fault("w x;", 2);
        Due.fault("wx;", 1);
        Due.fault("w1;x;", 3);
        Due.fault("w1x;", 2);
        Due.fault("k2x;", 2);
        Due.fault("w1;r4;b0x;", 8);
        Due.fault("w1;r4;b0 0x;", 10);
    }

    private static void otherLetters() {
        Due.sentence("FAULT: the place of any other letter");
        int[] others = {0, 9, 10, 31, 33, 'a', 'W', 'R', 'X', 'B', 'K', 'J', ':', '/', '-', '+', ',', '.', 127, 128, 160, 255};
        for (int letter : others) {
            Due.fault((char) letter + "w1;", 0);
            Due.fault("w" + (char) letter + "1;", 1);
            Due.fault("w1;r4 " + (char) letter, 6);
            Due.fault("w1;r4;" + (char) letter, 6);
        }
    }

    private static void numberWhereNoneCanStand() {
        Due.sentence("FAULT: the first TOKEN that can't stand there");
        Due.fault("7", 0);
        Due.fault("w1;4;", 3);
        Due.fault("w1;r4;b0 0 0;", 11);
        Due.fault("j2 2;", 3);
        Due.fault("ww1;", 1);
        Due.fault("w1;rb", 4);
    }

    private static void firstOfTwoFaults() {
        Due.sentence("FAULT: of the FIRST TOKEN that can't stand there");
        Due.fault("w6;q", 1);
        Due.fault("q;w6;", 0);
        Due.fault("w2;r4;r100;", 5);
        Due.fault("k1;k1;", 1);
        Due.fault("w1;r9;b7 7;", 4);
        Due.fault("w1;r4;b1 1;", 7);
        Due.fault("k100 q", 1);
        Due.fault("w1;r4;k02", 7);
        Due.fault("r", 0);
    }

    private static void endsTooEarly() {
        Due.sentence("FAULT: the text's length, if it ends too early");
        String text = "w2;r4 5;b1 0;k9;j4;";
        int items = 0;
        for (int length = 0; length <= text.length(); length++) {
            String ahead = text.substring(0, length);
            if (length == 0 || ahead.endsWith(";")) {
                Due.right(ahead, length == 0 ? 0 : ++items);
            } else {
                Due.fault(ahead, length);
                Due.fault(ahead + "  ", length + 2);
            }
        }
    }

    private static void withoutStart() {
        Due.sentence("(Without b: nobody can push.)");
        TippedBarrow b = Due.told("w2;r4 4;r4 4;");
        for (int way = 0; way < 4; way++) {
            Due.is("pushes(" + way + ")", b.pushes(way), STATE);
            Due.is("would(" + way + ")", b.would(way), STATE);
        }
        Due.is("objects()", b.objects(), STATE);
        Due.nows(b, "nobody", NONE, 0, 0, 0, 0, 0, 0, 0);
        Due.is("START", b.count(2), NONE);
    }

    // ---- the yard

    private static void numberOfACell() {
        Due.sentence("a CELL has as a number 5 y and x");
        Due.is("the first", Due.told("w5;r4 4 4 4 4;b0 0;").count(2), 0);
        Due.is("the last", Due.told("w5;rxxxxx;rxxxxx;rxxxxx;rxxxx4;b4 3;").count(2), 19);
        Due.is("the second ROW of WIDE 1", Due.told("w1;r4;r4;b0 1;").count(2), 5);
        Due.is("the second ROW of WIDE 2", Due.told("w2;r4 4;r4 4;b1 1;").now(0), 6);
    }

    private static void tiltOfACell() {
        Due.sentence("tilt: TILT of a CELL. NO: a brick");
        TippedBarrow b = Due.told("w5;r0 1 2 3 4;rx 5 x 6 x;r7 8 x x 0;r8 x x x 8;");
        int[] due = {-4, -3, -2, -1, 0, NO, 1, NO, 2, NO, 3, 4, NO, NO, -4, 4, NO, NO, NO, 4};
        for (int i = 0; i < 20; i++) {
            Due.is("tilt of " + i, b.tilt(i % 5, i / 5), due[i]);
        }
    }

    private static void noSuchCell() {
        Due.sentence("tilt. NO: BAD: x (0 .. WIDE less 1), y as many ROWS as are told");
        TippedBarrow b = Due.told("w5;r1 1 1 1 1;r1 1 1 1 1;r1 1 1 1 1;r1 1 1 1 1;");
        TippedBarrow small = Due.told("w2;r1 1;r1 1;");
        int[][] none = {{-1, 0}, {-1, 1}, {5, 0}, {5, 1}, {0, -1}, {4, -1}, {0, 4}, {-5, 1}, {10, 0}, {MAX, 0}, {MIN, 0},
            {0, MAX}, {0, MIN}, {MAX, MAX}, {-5, 2}, {858993460, 0}, {0, 858993460}};
        for (int[] cell : none) {
            Due.is("tilt(" + cell[0] + ", " + cell[1] + ")", b.tilt(cell[0], cell[1]), NO);
            Due.is("tilt(" + cell[0] + ", " + cell[1] + ") of a small yard", small.tilt(cell[0], cell[1]), NO);
        }
        Due.is("the last x and y", b.tilt(4, 3), -3);
        Due.is("beyond WIDE 2", small.tilt(2, 0), NO);
        Due.is("beyond 2 ROWS", small.tilt(0, 2), NO);
        Due.is("the last x and y of a small yard", small.tilt(1, 1), -3);
    }

    private static void countOutOfBounds() {
        Due.sentence("count: 0 WIDE .. 6 letters of THE TEXT. BAD");
        TippedBarrow b = Due.told("w4;r4 4 4 4;r4 4 4 4;b3 1;k7;j1;");
        b.tells(2);
        b.tells(2);
        Due.type(b, "abc");
        Due.counts(b, "all", 4, 2, 8, 7, 1, 2, 3);
        int[] bad = {-1, 7, MIN, MAX};
        for (int what : bad) {
            Due.is("count(" + what + ")", b.count(what), BAD);
        }
    }

    private static void readAnewAsToldElseAsAtFirst() {
        Due.sentence("(Read anew: as told (what is not told as at first))");
        TippedBarrow b = Due.told("w3;r4 5 x;r8 8 8;b1 0;k9;j4;");
        Due.type(b, "w2;r x3;");
        Due.is("yard()", b.yard(), 2);
        Due.counts(b, "less is told", 2, 1, NONE, 5, 2, 0, 0);
        Due.is("a brick where none was", b.tilt(0, 0), NO);
        Due.is("a CELL", b.tilt(1, 0), -1);
        Due.is("no old CELL to the right", b.tilt(2, 0), NO);
        Due.is("no old ROW below", b.tilt(0, 1), NO);
        Due.is("no old ROW below, to the right", b.tilt(2, 1), NO);
        Due.is("where the barrow is", b.now(0), NONE);
        Due.type(b, "k3;");
        Due.is("LIMIT alone", b.yard(), 1);
        Due.counts(b, "LIMIT alone", 0, 0, NONE, 3, 2);
        Due.is("no old CELL", b.tilt(1, 0), NO);
        Due.type(b, "w1;r4;b0 0;j0;");
        Due.is("LIMIT not told", b.yard(), 4);
        Due.counts(b, "LIMIT not told", 1, 1, 0, 5, 0);
        Due.is("nothing told", b.yard(), 0);
        Due.counts(b, "nothing told", 0, 0, NONE, 5, 2);
    }

    private static void readAnewAllGone() {
        Due.sentence("(Read anew: nothing TOLD, IMAGES are gone, nothing can be UNDONE; THE TRACE goes on)");
        String text = "w3;r4 4 6;r4 5 3;b1 0;k2;";
        TippedBarrow b = Due.told(text);
        Due.pushed(b, 1, 3);
        b.objects();
        b.evens(0, 0, -1);
        b.tells(1);
        b.keep(0);
        b.keep(1);
        b.rate(0, 0, 0);
        Due.pushed(b, 1, 2, 3);
        Due.nows(b, "ahead of it", 5, 1, 1, 0, 1, 0, 1, 7);
        Due.type(b, text);
        Due.is("yard()", b.yard(), 5);
        Due.nows(b, "read anew", 1, 0, 0, 0, 0, 0, 0, 0);
        Due.is("the rut is gone", b.tilt(2, 0), 2);
        Due.is("what was EVENED is as told", b.tilt(0, 0), 0);
        Due.is("WAYS TOLD", b.count(5), 0);
        Due.is("undo()", b.undo(), STATE);
        Due.is("back(0)", b.back(0), STATE);
        Due.is("back(1)", b.back(1), STATE);
        Due.is("trace()", b.trace(), 1);
    }
}
