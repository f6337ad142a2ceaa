/** Counts the answers that are not the due ones, and ends a test's run by them. */
final class Due {
    private static int asked;
    private static int wrong;
    private static int sentences;
    private static int askedAhead;
    private static String sentence = "";

    private Due() {
    }

    /** The words of the document that the answers from here on are due by. */
    static void sentence(String words) {
        endSentence();
        sentences++;
        askedAhead = asked;
        sentence = "[" + words + "] ";
    }

    private static void endSentence() {
        if (sentences > 0 && asked == askedAhead) {
            wrong++;
            System.out.println(sentence + "nothing was asked");
        }
    }

    static void is(String what, long got, long want) {
        asked++;
        if (got != want) {
            wrong++;
            System.out.println(sentence + what + " answered " + got + ", due is " + want);
        }
    }

    /** A new object with a text typed, not yet read. */
    static TippedBarrow typed(String text) {
        TippedBarrow barrow = new TippedBarrow();
        type(barrow, text);
        return barrow;
    }

    /** A new object whose yard is told by a text that is right. */
    static TippedBarrow told(String text) {
        TippedBarrow barrow = typed(text);
        if (barrow.yard() < 0) {
            is("yard() of '" + text + "' is refused", 1, 0);
        }
        return barrow;
    }

    static void type(TippedBarrow barrow, String text) {
        for (int i = 0; i < text.length(); i++) {
            barrow.type(text.charAt(i));
        }
    }

    /** A text that is read, and is empty then. */
    static void right(String text, int items) {
        TippedBarrow barrow = typed(text);
        is("yard() of '" + text + "'", barrow.yard(), items);
        is("letters behind yard() of '" + text + "'", barrow.count(6), 0);
    }

    /** A text that is refused, and stays. */
    static void fault(String text, int place) {
        TippedBarrow barrow = typed(text);
        is("yard() of '" + text + "'", barrow.yard(), -10 - place);
        is("letters behind yard() of '" + text + "'", barrow.count(6), text.length());
    }

    /** What the last of some pushes answers. */
    static int pushed(TippedBarrow barrow, int... ways) {
        int answer = 0;
        for (int way : ways) {
            answer = barrow.pushes(way);
        }
        return answer;
    }

    static void nows(TippedBarrow barrow, String what, int... due) {
        for (int i = 0; i < due.length; i++) {
            is(what + ": now(" + i + ")", barrow.now(i), due[i]);
        }
    }

    static void counts(TippedBarrow barrow, String what, int... due) {
        for (int i = 0; i < due.length; i++) {
            is(what + ": count(" + i + ")", barrow.count(i), due[i]);
        }
    }

    static void end() {
        endSentence();
        System.out.println((sentences > 0 ? sentences + " sentences, " : "") + asked + " answers, " + wrong + " of them wrong");
        if (wrong > 0 || asked == 0) {
            System.exit(1);
        }
    }
}
