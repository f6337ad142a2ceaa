/** Promises 20 to 22 and 24: rates by kinds, images, the trace. */
public final class KindsTest {
    private KindsTest() {
    }

    public static void main(String[] args) {
        rates();
        refusedRates();
        images();
        imagesKeepNothingElse();
        Due.end();
    }

    private static void rates() {
        TippedBarrow b = Due.told("w3;r4 4 6;r4 7 2;b0 0;k3;");
        b.pushes(1);
        b.pushes(1);
        b.pushes(2);
        b.pushes(3);
        b.pushes(0);
        b.pushes(1);
        b.evens(1, 1, 3);
        b.pushes(1);
        Due.is("verdicts", b.now(3) + b.now(4), 1);
        Due.is("lean", b.now(1), 2);
        int[] due = {3, 3 + 1, 3 - 2, 2 * (3 + 1), 3 - 2 + 1, 3 + 1};
        long[] bodies = {1, 11, 101, 1011, 10101, 100001};
        long trace = 0;
        for (int kind = 0; kind < 6; kind++) {
            Due.is("rate(" + kind + ", 1, 1)", b.rate(kind, 1, 1), due[kind]);
            trace += bodies[kind];
            Due.is("trace behind kind " + kind, b.trace(), trace);
        }
        b.undo();
        Due.is("trace goes on behind undo()", b.trace(), trace);
        b.keep(0);
        b.rate(0, 0, 0);
        b.back(0);
        Due.is("trace goes on behind back()", b.trace(), trace + 1);
        Due.type(b, "w1;r0;");
        b.yard();
        Due.is("trace goes on behind yard()", b.trace(), trace + 1);
        Due.is("rate of the new yard", b.rate(3, 0, 0), -8);
        Due.is("rate without START", b.rate(4, 0, 0), -4);
    }

    private static void refusedRates() {
        TippedBarrow b = Due.told("w2;r5 x;r5 5;");
        Due.is("kind -1", b.rate(-1, 0, 0), TippedBarrow.NO);
        Due.is("kind 6", b.rate(6, 0, 0), TippedBarrow.NO);
        Due.is("a brick", b.rate(0, 1, 0), TippedBarrow.NO);
        Due.is("x", b.rate(0, 2, 0), TippedBarrow.NO);
        Due.is("y", b.rate(0, 0, 2), TippedBarrow.NO);
        Due.is("x below 0", b.rate(0, -1, 1), TippedBarrow.NO);
        Due.is("y below 0", b.rate(0, 0, -1), TippedBarrow.NO);
        Due.is("nothing traced", b.trace(), 0);
    }

    private static void images() {
        TippedBarrow b = Due.told("w3;r4 4 6;b1 0;k2;");
        Due.is("keep(-1)", b.keep(-1), TippedBarrow.BAD);
        Due.is("keep(2)", b.keep(2), TippedBarrow.BAD);
        Due.is("back(-1)", b.back(-1), TippedBarrow.BAD);
        Due.is("back(2)", b.back(2), TippedBarrow.BAD);
        Due.is("none was kept", b.back(1), TippedBarrow.STATE);
        b.pushes(1);
        b.objects();
        b.pushes(3);
        Due.is("keep(1)", b.keep(1), 1);
        Due.is("keep leaves the deeds", b.now(7), 3);
        int[] nows = {0, 0, 0, 0, 1, 1, 0, 0};
        b.pushes(1);
        b.pushes(1);
        b.objects();
        b.evens(0, 0, -4);
        Due.is("keep(0)", b.keep(0), 2);
        Due.is("back(1)", b.back(1), 1);
        for (int what = 0; what < nows.length; what++) {
            Due.is("back: now(" + what + ")", b.now(what), nows[what]);
        }
        Due.is("back: tilt(0, 0)", b.tilt(0, 0), 0);
        Due.is("back: tilt(2, 0)", b.tilt(2, 0), 3);
        Due.is("nothing undone behind back()", b.undo(), TippedBarrow.STATE);
        b.evens(2, 0, -1);
        Due.is("undo() of what came behind", b.undo(), 0);
        b.evens(2, 0, 1);
        Due.is("back(1) once more", b.back(1), 1);
        Due.is("an image is not what it was copied from", b.tilt(2, 0), 3);
        Due.is("back(0)", b.back(0), 2);
        Due.is("back(0): tilt(0, 0)", b.tilt(0, 0), -4);
        Due.is("back(0): tilt(2, 0)", b.tilt(2, 0), 4);
        Due.is("back(0): objections", b.now(5), 1);
        Due.is("keep(0) again", b.keep(0), 2);
    }

    private static void imagesKeepNothingElse() {
        TippedBarrow b = Due.told("w3;r4 4 6;b1 0;k2;");
        b.keep(0);
        b.tells(1);
        b.type('w');
        b.back(0);
        Due.is("ways told", b.count(5), 1);
        Due.is("letters", b.count(6), 1);
        Due.is("refused yard", b.yard(), -11);
        Due.is("images stay", b.back(0), 0);
        b.clear();
        b.yard();
        Due.is("gone", b.back(0), TippedBarrow.STATE);
    }
}
