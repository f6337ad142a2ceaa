/** Promises 17 to 19: the ways told, and which leanings they leave. */
public final class ToldTest {
    private ToldTest() {
    }

    public static void main(String[] args) {
        tells();
        noWays();
        byLeanings();
        notAheadOfTheLast();
        fromStartWithTiltsAsNow();
        Due.end();
    }

    private static void tells() {
        TippedBarrow b = new TippedBarrow();
        Due.is("forget() of none", b.forget(), 0);
        Due.is("tells(-1)", b.tells(-1), TippedBarrow.BAD);
        Due.is("tells(4)", b.tells(4), TippedBarrow.BAD);
        for (int i = 0; i < 8; i++) {
            Due.is("way " + i, b.tells(i % 4), i + 1);
        }
        Due.is("a ninth", b.tells(0), TippedBarrow.FULL);
        Due.is("BAD ahead of FULL", b.tells(4), TippedBarrow.BAD);
        Due.is("eight are told", b.count(5), 8);
        Due.is("forget()", b.forget(), 8);
        Due.is("forgotten", b.count(5), 0);
        Due.is("anew", b.tells(3), 1);
    }

    private static void noWays() {
        TippedBarrow b = new TippedBarrow();
        Due.is("BAD ahead of STATE", b.leanings(3), TippedBarrow.BAD);
        Due.is("leanings(-1)", b.leanings(-1), TippedBarrow.BAD);
        Due.is("no START", b.leanings(0), TippedBarrow.STATE);
        b = Due.told("w1;r4;b0 0;");
        left(b, "no ways", 31, 0, 0);
    }

    private static void byLeanings() {
        TippedBarrow b = Due.told("w2;r4 4;b0 0;k2;j4;");
        b.tells(1);
        left(b, "one push", 2 + 4 + 8, 1, 16);
        b.tells(3);
        left(b, "two pushes", 4, 2, 8);
        b.tells(1);
        left(b, "three pushes", 4, 0, 0);
        b.forget();
        b.tells(0);
        left(b, "off the yard", 0, 0, 0);
        b.forget();
        b.tells(1);
        b.tells(1);
        left(b, "off the yard by the second", 0, 0, 0);
        Due.is("the judge's own leaning stays", b.count(4), 4);
    }

    private static void notAheadOfTheLast() {
        TippedBarrow b = Due.told("w3;r4 8 0;b0 0;k4;j2;");
        b.tells(1);
        left(b, "tips by the first for some", 3, 0, 4 + 8 + 16);
        b.tells(1);
        left(b, "those have tipped ahead of the last", 2, 1, 0);
        b = Due.told("w3;r4 x 4;b0 0;");
        b.tells(1);
        left(b, "a brick", 0, 0, 0);
    }

    private static void fromStartWithTiltsAsNow() {
        TippedBarrow b = Due.told("w3;r4 4 4;b0 0;k3;");
        b.tells(1);
        left(b, "as told", 31, 0, 0);
        b.evens(1, 0, 2);
        left(b, "as evened", 7, 0, 24);
        b.pushes(1);
        b.pushes(1);
        left(b, "from START, LEAN 0, wherever it is", 7, 0, 24);
        b.undo();
        b.undo();
        b.undo();
        left(b, "undone", 31, 0, 0);
    }

    private static void left(TippedBarrow b, String what, int not, int left, int right) {
        Due.is(what + ": not tipped", b.leanings(0), not);
        Due.is(what + ": to the left", b.leanings(1), left);
        Due.is(what + ": to the right", b.leanings(2), right);
    }
}
