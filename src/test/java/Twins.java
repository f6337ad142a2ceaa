/** Two objects of the same calls, but for one call that must not have changed anything. */
final class Twins {
    private Twins() {
    }

    /** Asks both all that can be asked, then takes both apart: what is UNDONE, what the IMAGES and THE TEXT hold. */
    static void same(String what, TippedBarrow one, TippedBarrow other) {
        sameReadings(what, one, other);
        for (int i = 0; i < 11; i++) {
            int left = other.undo();
            Due.is(what + ", then undo() " + i, one.undo(), left);
            sameNows(what + ", then undo() " + i, one, other);
            if (left < 0) {
                break;
            }
        }
        sameTilts(what + ", all undone", one, other);
        for (int image = 0; image < 2; image++) {
            Due.is(what + ", then back(" + image + ")", one.back(image), other.back(image));
            sameNows(what + ", then back(" + image + ")", one, other);
            sameTilts(what + ", then back(" + image + ")", one, other);
        }
        Due.is(what + ", then yard()", one.yard(), other.yard());
        sameNows(what + ", then yard()", one, other);
        Due.is(what + ", then forget()", one.forget(), other.forget());
    }

    private static void sameReadings(String what, TippedBarrow one, TippedBarrow other) {
        sameNows(what, one, other);
        sameTilts(what, one, other);
        for (int i = 0; i < 7; i++) {
            Due.is(what + ", then count(" + i + ")", one.count(i), other.count(i));
        }
        for (int way = 0; way < 4; way++) {
            Due.is(what + ", then would(" + way + ")", one.would(way), other.would(way));
        }
        Due.is(what + ", then game(0)", one.game(0), other.game(0));
        Due.is(what + ", then game(1)", one.game(1), other.game(1));
        Due.is(what + ", then advice()", one.advice(), other.advice());
        for (int side = 1; side <= 2; side++) {
            Due.is(what + ", then soonest(" + side + ", -1)", one.soonest(side, -1), other.soonest(side, -1));
            Due.is(what + ", then odds(" + side + ", 3, 0)", one.odds(side, 3, 0), other.odds(side, 3, 0));
        }
        Due.is(what + ", then decides()", one.decides(), other.decides());
        for (int how = 0; how < 3; how++) {
            Due.is(what + ", then leanings(" + how + ")", one.leanings(how), other.leanings(how));
        }
        Due.is(what + ", then trace()", one.trace(), other.trace());
    }

    private static void sameNows(String what, TippedBarrow one, TippedBarrow other) {
        for (int i = 0; i < 8; i++) {
            Due.is(what + ", then now(" + i + ")", one.now(i), other.now(i));
        }
    }

    private static void sameTilts(String what, TippedBarrow one, TippedBarrow other) {
        for (int i = 0; i < 20; i++) {
            Due.is(what + ", then tilt of " + i, one.tilt(i % 5, i / 5), other.tilt(i % 5, i / 5));
        }
    }
}
