/** Promises 1 to 6 and 23: a new object, the text, the yard as told and as it is. */
public final class YardTest {
    private YardTest() {
    }

    public static void main(String[] args) {
        newObject();
        letters();
        readAnew();
        rightTexts();
        firstItems();
        rowFaults();
        startFaults();
        limitsAndLeanings();
        numbers();
        refusedTextChangesNothing();
        tilts();
        nowAndCount();
        Due.end();
    }

    private static void newObject() {
        TippedBarrow b = new TippedBarrow();
        int[] nows = {TippedBarrow.NONE, 0, 0, 0, 0, 0, 0, 0};
        int[] counts = {0, 0, TippedBarrow.NONE, 5, 2, 0, 0};
        for (int what = 0; what < nows.length; what++) {
            Due.is("new: now(" + what + ")", b.now(what), nows[what]);
        }
        for (int what = 0; what < counts.length; what++) {
            Due.is("new: count(" + what + ")", b.count(what), counts[what]);
        }
        Due.is("new: tilt(0, 0)", b.tilt(0, 0), TippedBarrow.NO);
        Due.is("new: trace()", b.trace(), 0);
        Due.is("new: back(0)", b.back(0), TippedBarrow.STATE);
        Due.is("new: keep(0)", b.keep(0), 0);
        Due.is("new: back(0) behind keep", b.back(0), 0);
        Due.is("new: clear()", b.clear(), 0);
        Due.is("new: evens(0, 0, 1)", b.evens(0, 0, 1), TippedBarrow.NO);
        Due.is("new: rate(0, 0, 0)", b.rate(0, 0, 0), TippedBarrow.NO);
        Due.is("BAD", TippedBarrow.BAD, -1);
        Due.is("STATE", TippedBarrow.STATE, -2);
        Due.is("FULL", TippedBarrow.FULL, -3);
        Due.is("NONE", TippedBarrow.NONE, -9);
        Due.is("NO", TippedBarrow.NO, -1000000);
    }

    private static void letters() {
        TippedBarrow b = new TippedBarrow();
        Due.is("type(-1)", b.type(-1), TippedBarrow.BAD);
        Due.is("type(256)", b.type(256), TippedBarrow.BAD);
        Due.is("type(MAX)", b.type(Integer.MAX_VALUE), TippedBarrow.BAD);
        Due.is("type(0)", b.type(0), 1);
        Due.is("type(255)", b.type(255), 2);
        Due.is("clear()", b.clear(), 2);
        Due.is("clear() again", b.clear(), 0);
        for (int i = 1; i <= 120; i++) {
            Due.is("letter " + i, b.type(' '), i);
        }
        Due.is("letter 121", b.type(' '), TippedBarrow.FULL);
        Due.is("BAD ahead of FULL", b.type(256), TippedBarrow.BAD);
        Due.is("count(6) of a full text", b.count(6), 120);
        Due.is("120 blanks", b.yard(), 0);
        Due.is("empty behind yard()", b.count(6), 0);
        for (int i = 0; i < 120; i++) {
            b.type(i < 119 ? ' ' : 'w');
        }
        Due.is("a full text that ends too early", b.yard(), -130);
        Due.is("clear() of a full text", b.clear(), 120);
        Due.is("type behind it", b.type('w'), 1);
    }

    private static void readAnew() {
        TippedBarrow b = Due.told("w3;r4 5 3;b1 0;k2;j3;");
        b.pushes(1);
        b.pushes(1);
        b.objects();
        b.evens(0, 0, 2);
        b.keep(0);
        b.tells(1);
        b.rate(1, 0, 0);
        Due.type(b, "w2;r1 2;r3 x;");
        Due.is("yard anew", b.yard(), 3);
        int[] nows = {TippedBarrow.NONE, 0, 0, 0, 0, 0, 0, 0};
        for (int what = 0; what < nows.length; what++) {
            Due.is("anew: now(" + what + ")", b.now(what), nows[what]);
        }
        int[] counts = {2, 2, TippedBarrow.NONE, 5, 2, 0, 0};
        for (int what = 0; what < counts.length; what++) {
            Due.is("anew: count(" + what + ")", b.count(what), counts[what]);
        }
        Due.is("anew: back(0)", b.back(0), TippedBarrow.STATE);
        Due.is("anew: undo()", b.undo(), TippedBarrow.STATE);
        Due.is("anew: trace() goes on", b.trace(), 11);
        Due.is("anew: tilt(0, 0)", b.tilt(0, 0), -3);
        Due.is("anew: tilt(2, 0)", b.tilt(2, 0), TippedBarrow.NO);
        Due.is("anew: a brick", b.tilt(1, 1), TippedBarrow.NO);
        for (int i = 0; i < 3; i++) {
            Due.type(b, "w2;r4 7;b1 0;k2;j1;");
            Due.is("yard told by all items", b.yard(), 5);
            b.pushes(3);
            b.pushes(1);
            b.pushes(3);
            b.objects();
            Due.type(b, i == 0 ? "w2;r1 2;b0 0;" : "");
            Due.is("less is told", b.yard(), i == 0 ? 3 : 0);
            Due.is("where it is", b.now(0), i == 0 ? 0 : TippedBarrow.NONE);
            for (int what = 1; what < 8; what++) {
                Due.is("as at first: now(" + what + ")", b.now(what), 0);
            }
            Due.is("as at first: limit", b.count(3), 5);
            Due.is("as at first: leaning", b.count(4), 2);
        }
        Due.is("an empty text", b.yard(), 0);
        Due.is("no cells", b.count(0), 0);
        Due.is("no rows", b.count(1), 0);
        Due.is("no tilt", b.tilt(0, 0), TippedBarrow.NO);
    }

    private static void rightTexts() {
        right("w5;", 1);
        right("  w  5  ;  ", 1);
        right("w1;r0;r8;rx;r4;b0 3;k9;j4;", 8);
        right("k9;", 1);
        right("j0;k2;", 2);
        right("w2;k3;r4 4;j1;b1 0;", 5);
        right("w2;rx4;rxx;r4x;b0 2;", 5);
        right("w2;r4 4;b0 0;k5;j2;", 5);
        right("w5;r0 1 2 3 4;r5 6 7 8 x;r4 4 4 4 4;rx x x x 4;b4 3;", 6);
    }

    private static void firstItems() {
        fault("w", 1);
        fault("w5", 2);
        fault("w5  ", 4);
        fault("w0;", 1);
        fault("w6;", 1);
        fault("w x;", 2);
        fault("w;", 1);
        fault("w5 5;", 3);
        fault("w5;w5;", 3);
        fault("k5;w2;", 3);
        fault("w5 w", 3);
        fault(";", 0);
        fault("w5;;", 3);
        fault("5;", 0);
        fault("  x;", 2);
        fault("W5;", 0);
        fault("w\t5;", 1);
        fault("w5;r4 4 4 4 4;q", 14);
        fault("w5;\u00ff", 3);
    }

    private static void rowFaults() {
        fault("r4;", 0);
        fault("k5;r4;", 3);
        fault("w2;r", 4);
        fault("w2;r;", 4);
        fault("w2;r4;", 5);
        fault("w2;r4 r", 6);
        fault("w2;r4 4", 7);
        fault("w2;r4 4 4;", 8);
        fault("w2;r4 4x;", 7);
        fault("w2;r4 9;", 6);
        fault("w2;r44;", 4);
        fault("w2;r4 k;", 6);
        fault("w2;r4 4 r4 4;", 8);
        fault("w1;r4;r4;r4;r4;r4;", 15);
        fault("w1;r4;b0 0;r4;", 11);
    }

    private static void startFaults() {
        fault("b0 0;", 1);
        fault("b;", 1);
        fault("w2;b0 0;", 6);
        fault("w2;b2 0;", 4);
        fault("w2;r4 4;b2 0;", 9);
        fault("w2;r4 4;b1 1;", 11);
        fault("w2;r4 x;b1 0;", 11);
        fault("w2;r4 x;b1 0", 11);
        fault("w2;r4 4;b1 0", 12);
        fault("w2;r4 4;b1;", 10);
        fault("w2;r4 4;b1 x;", 11);
        fault("w2;r4 4;bx 0;", 9);
        fault("w2;r4 4;b10;", 9);
        fault("w2;r4 4;b1 0 0;", 13);
        fault("w2;r4 4;b1 0;b0 0;", 13);
        fault("w2;r4 4;b1 4;", 11);
        fault("w5;r4 4 4 4 4;b4 5;", 17);
    }

    private static void limitsAndLeanings() {
        fault("k1;", 1);
        fault("k10;", 1);
        fault("k", 1);
        fault("k2", 2);
        fault("k2;k2;", 3);
        fault("k2;j2;k2;", 6);
        fault("j5;", 1);
        fault("j", 1);
        fault("j2;j2;", 3);
        fault("jx;", 1);
        fault("kk", 1);
        fault("j0;k2;j0;", 6);
    }

    private static void numbers() {
        fault("w05;", 1);
        fault("k02;", 1);
        fault("w1;r00;", 4);
        fault("w1;r04;", 4);
        fault("w100;", 1);
        fault("w1;r 100;", 5);
        fault("w99999999999999999999;", 1);
        fault("w4294967297;", 1);
        fault("w1;r4294967300;", 4);
        fault("w99;", 1);
        fault("7;", 0);
    }

    private static void refusedTextChangesNothing() {
        TippedBarrow b = Due.told("w3;r4 5 3;b1 0;k2;j3;");
        b.pushes(1);
        b.pushes(3);
        b.keep(1);
        b.tells(2);
        Due.type(b, "w2;r8 8;b0 0;k9;j0;r");
        Due.is("refused", b.yard(), -29);
        Due.is("refused: the text stays", b.count(6), 20);
        Due.is("refused again", b.yard(), -29);
        int[] counts = {3, 1, 1, 2, 3, 1, 20};
        for (int what = 0; what < counts.length; what++) {
            Due.is("refused: count(" + what + ")", b.count(what), counts[what]);
        }
        Due.is("refused: tilt(2, 0)", b.tilt(2, 0), -1);
        Due.is("refused: now(0)", b.now(0), 1);
        Due.is("refused: now(7)", b.now(7), 2);
        Due.is("refused: the image", b.back(1), 1);
        b.clear();
        Due.type(b, "w2;r8 8;b0 0;k9;j0;");
        Due.is("the right one", b.yard(), 5);
        Due.is("the right one: tilt(1, 0)", b.tilt(1, 0), 4);
        Due.is("the right one: limit", b.count(3), 9);
        Due.is("the right one: leaning", b.count(4), 0);
    }

    private static void tilts() {
        TippedBarrow b = Due.told("w3;r0 1 2;r8 x 7;b0 0;");
        int[][] want = {{-4, -3, -2}, {4, TippedBarrow.NO, 3}};
        for (int y = -1; y <= 4; y++) {
            for (int x = -1; x <= 6; x++) {
                boolean there = y >= 0 && y < 2 && x >= 0 && x < 3;
                Due.is("tilt(" + x + ", " + y + ")", b.tilt(x, y), there ? want[y][x] : TippedBarrow.NO);
            }
        }
        Due.is("tilt(MAX, 0)", b.tilt(Integer.MAX_VALUE, 0), TippedBarrow.NO);
        Due.is("tilt(0, MIN)", b.tilt(0, Integer.MIN_VALUE), TippedBarrow.NO);
        Due.is("tilt(-5, 1)", b.tilt(-5, 1), TippedBarrow.NO);
    }

    private static void nowAndCount() {
        TippedBarrow b = Due.told("w5;r4 4 4 4 4;r4 4 4 4 4;r4 4 4 4 5;b4 1;k9;j4;");
        Due.is("start", b.count(2), 9);
        Due.is("wide", b.count(0), 5);
        Due.is("rows", b.count(1), 3);
        Due.is("limit", b.count(3), 9);
        Due.is("leaning", b.count(4), 4);
        b.pushes(2);
        Due.is("now(0)", b.now(0), 14);
        Due.is("now(1)", b.now(1), 3);
        Due.is("now(2)", b.now(2), 1);
        Due.is("now(7)", b.now(7), 1);
        b.objects();
        Due.is("now(5)", b.now(5), 0);
        Due.is("now(6)", b.now(6), 1);
        Due.is("start stays", b.count(2), 9);
        Due.is("now(-1)", b.now(-1), TippedBarrow.NO);
        Due.is("now(8)", b.now(8), TippedBarrow.NO);
        Due.is("count(-1)", b.count(-1), TippedBarrow.BAD);
        Due.is("count(7)", b.count(7), TippedBarrow.BAD);
        b.type('a');
        b.tells(0);
        b.tells(0);
        Due.is("count(5)", b.count(5), 2);
        Due.is("count(6)", b.count(6), 1);
    }

    private static void right(String text, int items) {
        Due.is("yard() of '" + text + "'", Due.typed(text).yard(), items);
    }

    private static void fault(String text, int place) {
        Due.is("yard() of '" + text + "'", Due.typed(text).yard(), -10 - place);
    }
}
