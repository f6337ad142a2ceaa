/** Counts the answers that are not the due ones, and ends a test's run by them. */
final class Due {
    private static int asked;
    private static int wrong;

    private Due() {
    }

    static void is(String what, long got, long want) {
        asked++;
        if (got != want) {
            wrong++;
            System.out.println(what + " answered " + got + ", due is " + want);
        }
    }

    /** A new object with a text typed, not yet read. */
    static TippedBarrow typed(String text) {
        TippedBarrow barrow = new TippedBarrow();
        type(barrow, text);
        return barrow;
    }

    /** A new object whose yard is told by a text that is right. */
    static TippedBarrow told(String text) {
        TippedBarrow barrow = typed(text);
        if (barrow.yard() < 0) {
            is("yard() of '" + text + "' is refused", 1, 0);
        }
        return barrow;
    }

    static void type(TippedBarrow barrow, String text) {
        for (int i = 0; i < text.length(); i++) {
            barrow.type(text.charAt(i));
        }
    }

    static void end() {
        System.out.println(asked + " answers, " + wrong + " of them wrong");
        if (wrong > 0 || asked == 0) {
            System.exit(1);
        }
    }
}
