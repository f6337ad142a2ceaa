/** All promises, by many runs of calls that are put to the program and to the model alike. */
public final class ModelTest {
    private static final int RUNS = 1500;
    /** An object is used for at most so many calls. */
    private static final int MOST_CALLS = 512;
    /** What a step, a yard read anew and the last comparison take at most. */
    private static final int CALLS_OF_THE_END = 140;
    private static final int TEXTS = 20000;

    private static long seed = 20261118;
    private static int calls;

    private ModelTest() {
    }

    public static void main(String[] args) {
        for (int i = 0; i < TEXTS; i++) {
            text(i);
        }
        for (int i = 0; i < RUNS; i++) {
            run(i);
        }
        Due.end();
    }

    private static int below(int bound) {
        seed = seed * 6364136223846793005L + 1442695040888963407L;
        return (int) ((seed >>> 33) % bound);
    }

    private static int between(int low, int high) {
        return low + below(high - low + 1);
    }

    /** One call of the program and of the model. */
    private static void same(String call, long got, long want) {
        calls++;
        Due.is(call, got, want);
    }

    // ---- texts, right ones and wrong ones

    private static void text(int i) {
        String text = rightText();
        for (int slips = below(4); slips > 0; slips--) {
            text = slip(text);
        }
        TippedBarrow barrow = new TippedBarrow();
        Model model = new Model();
        for (int k = 0; k < text.length(); k++) {
            same("type", barrow.type(text.charAt(k)), model.type(text.charAt(k)));
        }
        same("yard() of '" + text + "'", barrow.yard(), model.yard());
        compareAll("behind '" + text + "'", barrow, model);
    }

    private static String slip(String text) {
        String letters = "wrxbkj;; 0123456789a\t";
        int place = below(text.length() + 1);
        String ahead = text.substring(0, place);
        String rest = text.substring(place);
        int kind = below(4);
        if (kind == 0 && !rest.isEmpty()) {
            return ahead + rest.substring(1);
        }
        if (kind == 1) {
            return ahead;
        }
        String letter = "" + letters.charAt(below(letters.length()));
        return ahead + letter + (kind == 2 && !rest.isEmpty() ? rest.substring(1) : rest);
    }

    private static String rightText() {
        int wide = between(1, 5);
        int rows = between(1, 4);
        int bricks = below(4);
        int spread = between(1, 4);
        StringBuilder text = new StringBuilder("w" + wide + ";");
        StringBuilder cells = new StringBuilder();
        for (int y = 0; y < rows; y++) {
            text.append('r');
            for (int x = 0; x < wide; x++) {
                boolean brick = below(10) < bricks;
                cells.append(brick ? 'x' : '.');
                text.append(brick ? "x" : " " + between(4 - spread, 4 + spread));
            }
            text.append(';');
        }
        int start = below(wide * rows);
        for (int i = 0; i < wide * rows && cells.charAt(start) == 'x'; i++) {
            start = (start + 1) % (wide * rows);
        }
        if (cells.charAt(start) != 'x' && below(20) > 0) {
            text.append("b" + start % wide + " " + start / wide + ";");
        }
        text.append(below(4) == 0 ? "" : "k" + between(2, 9) + ";");
        text.append(below(3) == 0 ? "" : "j" + between(0, 4) + ";");
        return text.toString();
    }

    // ---- runs of calls

    private static void run(int run) {
        TippedBarrow barrow = new TippedBarrow();
        Model model = new Model();
        calls = 0;
        typeBoth(barrow, model);
        while (calls < MOST_CALLS - CALLS_OF_THE_END) {
            String call = "run " + run + ", call " + calls + ": ";
            if (below(60) == 0) {
                typeBoth(barrow, model);
            }
            int kind = below(20);
            if (kind < 9) {
                deed(call, barrow, model);
            } else if (kind < 14) {
                forecast(call, barrow, model);
            } else {
                other(call, barrow, model);
            }
            compareSome(call, barrow, model);
        }
        compareAll("run " + run + ", at its end: ", barrow, model);
        same("calls beyond " + MOST_CALLS, Math.max(0, calls - MOST_CALLS), 0);
    }

    private static void typeBoth(TippedBarrow barrow, Model model) {
        String text = rightText();
        same("clear()", barrow.clear(), model.clear());
        for (int k = 0; k < text.length(); k++) {
            same("type()", barrow.type(text.charAt(k)), model.type(text.charAt(k)));
        }
        same("yard() of '" + text + "'", barrow.yard(), model.yard());
    }

    private static void deed(String call, TippedBarrow barrow, Model model) {
        int kind = below(12);
        if (kind < 8) {
            int way = between(-1, 4);
            same(call + "pushes(" + way + ")", barrow.pushes(way), model.pushes(way));
        } else if (kind == 8) {
            same(call + "objects()", barrow.objects(), model.objects());
        } else if (kind == 9) {
            same(call + "undo()", barrow.undo(), model.undo());
        } else {
            int x = between(-1, 5);
            int y = between(-1, 4);
            int t = between(-5, 5);
            same(call + "evens(" + x + ", " + y + ", " + t + ")", barrow.evens(x, y, t), model.evens(x, y, t));
        }
    }

    private static void forecast(String call, TippedBarrow barrow, Model model) {
        int kind = below(6);
        int what = between(-1, 2);
        int side = below(20) == 0 ? 3 * below(2) : between(1, 2);
        int k = between(-2, 12);
        int n = between(-1, 5);
        if (kind == 0) {
            int way = between(-1, 4);
            same(call + "would(" + way + ")", barrow.would(way), model.would(way));
        } else if (kind == 1) {
            same(call + "game(" + what + ")", barrow.game(what), model.game(what));
        } else if (kind == 2) {
            same(call + "advice()", barrow.advice(), model.advice());
        } else if (kind == 3) {
            same(call + "soonest(" + side + ", " + k + ")", barrow.soonest(side, k), model.soonest(side, k));
        } else if (kind == 4) {
            same(call + "odds(" + side + ", " + n + ", " + what + ")",
                barrow.odds(side, n, what), model.odds(side, n, what));
        } else if (below(4) == 0) {
            same(call + "decides()", barrow.decides(), model.decides());
        }
    }

    private static void other(String call, TippedBarrow barrow, Model model) {
        int kind = below(8);
        int any = below(10) == 0 ? 5 * below(2) - 1 : between(0, 3);
        if (kind < 3) {
            same(call + "tells(" + any + ")", barrow.tells(any), model.tells(any));
        } else if (kind == 3 && below(4) == 0) {
            same(call + "forget()", barrow.forget(), model.forget());
        } else if (kind == 4) {
            int image = between(0, 1);
            same(call + "keep(" + image + ")", barrow.keep(image), model.keep(image));
        } else if (kind == 5) {
            int image = between(-1, 2);
            same(call + "back(" + image + ")", barrow.back(image), model.back(image));
        } else if (kind == 6) {
            int x = between(-1, 5);
            int y = between(-1, 4);
            int body = between(-1, 6);
            same(call + "rate(" + body + ", " + x + ", " + y + ")", barrow.rate(body, x, y), model.rate(body, x, y));
        } else {
            int how = between(-1, 3);
            same(call + "leanings(" + how + ")", barrow.leanings(how), model.leanings(how));
        }
    }

    private static void compareSome(String call, TippedBarrow barrow, Model model) {
        for (int what = 0; what < 8; what++) {
            same(call + "now(" + what + ")", barrow.now(what), model.now(what));
        }
        int x = below(5);
        int y = below(4);
        same(call + "tilt(" + x + ", " + y + ")", barrow.tilt(x, y), model.tilt(x, y));
        same(call + "count(5)", barrow.count(5), model.count(5));
        same(call + "trace()", barrow.trace(), model.trace());
    }

    private static void compareAll(String call, TippedBarrow barrow, Model model) {
        for (int what = -1; what <= 8; what++) {
            same(call + "now(" + what + ")", barrow.now(what), model.now(what));
            same(call + "count(" + what + ")", barrow.count(what), model.count(what));
        }
        for (int y = 0; y < 4; y++) {
            for (int x = 0; x < 5; x++) {
                same(call + "tilt(" + x + ", " + y + ")", barrow.tilt(x, y), model.tilt(x, y));
            }
        }
        for (int how = 0; how <= 2; how++) {
            same(call + "leanings(" + how + ")", barrow.leanings(how), model.leanings(how));
        }
        same(call + "trace()", barrow.trace(), model.trace());
    }
}
