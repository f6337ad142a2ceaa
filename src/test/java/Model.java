import java.util.ArrayDeque;
import java.util.ArrayList;
import java.util.Arrays;
import java.util.Deque;
import java.util.List;

/**
 * The document once more, by the plainest means and none of the program's own: all objects are
 * copied, games are played out push by push, rows of ways are tried one by one.
 */
final class Model {
    private static final int BAD = -1, STATE = -2, FULL = -3, NONE = -9, NO = -1000000;
    private static final int[] DX = {0, 1, 0, -1};
    private static final int[] DY = {-1, 0, 1, 0};

    /** What an image keeps. */
    private static final class Image {
        Integer[][] tilts = new Integer[4][5];
        int x = -1;
        int y = -1;
        int lean;
        int mover;
        int[] verdicts = {0, 0};
        int[] objections = {0, 0};

        Image copy() {
            Image image = new Image();
            for (int row = 0; row < 4; row++) {
                image.tilts[row] = tilts[row].clone();
            }
            image.x = x;
            image.y = y;
            image.lean = lean;
            image.mover = mover;
            image.verdicts = verdicts.clone();
            image.objections = objections.clone();
            return image;
        }
    }

    private StringBuilder text = new StringBuilder();
    private int wide;
    private int rows;
    private int startX = -1;
    private int startY = -1;
    private int limit = 5;
    private int leaning;
    private Image image = new Image();
    private Deque<Image> undoable = new ArrayDeque<>();
    private Image[] kept = new Image[2];
    private List<Integer> told = new ArrayList<>();
    private long trace;

    int type(int letter) {
        if (letter < 0 || letter > 255) {
            return BAD;
        }
        if (text.length() == 120) {
            return FULL;
        }
        text.append((char) letter);
        return text.length();
    }

    int clear() {
        int had = text.length();
        text.setLength(0);
        return had;
    }

    // ---- the text: all tokens first, then the items by what may stand at each place

    private static final class Fault extends RuntimeException {
        private static final long serialVersionUID = 1L;
        final int place;

        Fault(int place) {
            this.place = place;
        }
    }

    private List<String> tokens;
    private List<Integer> places;
    private int at;

    private void split() {
        tokens = new ArrayList<>();
        places = new ArrayList<>();
        at = 0;
        String rest = text.toString();
        for (int i = 0; i < rest.length(); i++) {
            char c = rest.charAt(i);
            if (c == ' ') {
                continue;
            }
            int end = i + 1;
            while (c >= '0' && c <= '9' && end < rest.length() && rest.charAt(end) >= '0' && rest.charAt(end) <= '9') {
                end++;
            }
            tokens.add(rest.substring(i, end));
            places.add(i);
            i = end - 1;
        }
        tokens.add("end");
        places.add(rest.length());
    }

    private String take(String pattern) {
        String token = tokens.get(at);
        if (!token.matches(pattern)) {
            throw new Fault(places.get(at));
        }
        at++;
        return token;
    }

    private int takeNumber(int low, int high) {
        String token = take("0|[1-9][0-9]?");
        int number = Integer.parseInt(token);
        if (number < low || number > high) {
            throw new Fault(places.get(at - 1));
        }
        return number;
    }

    int yard() {
        Model next = new Model();
        next.text = text;
        try {
            int items = next.readAll();
            wide = next.wide;
            rows = next.rows;
            startX = next.startX;
            startY = next.startY;
            limit = next.limit;
            leaning = next.leaning;
            image = next.image;
            undoable.clear();
            kept = new Image[2];
            told.clear();
            text = new StringBuilder();
            return items;
        } catch (Fault fault) {
            return -10 - fault.place;
        }
    }

    private int readAll() {
        split();
        int items = 0;
        String seen = "";
        while (!tokens.get(at).equals("end")) {
            String may = (items == 0 ? "w" : "") + (wide > 0 && rows < 4 && startX < 0 ? "r" : "");
            may += (startX < 0 ? "b" : "") + (seen.contains("k") ? "" : "k") + (seen.contains("j") ? "" : "j");
            String item = take(may.isEmpty() ? "(?!)" : "[" + may + "]");
            seen += item;
            readItem(item);
            take(";");
            items++;
        }
        return items;
    }

    private void readItem(String item) {
        if (item.equals("w")) {
            wide = takeNumber(1, 5);
        } else if (item.equals("k")) {
            limit = takeNumber(2, 9);
        } else if (item.equals("j")) {
            leaning = takeNumber(0, 4) - 2;
        } else if (item.equals("r")) {
            for (int x = 0; x < wide; x++) {
                image.tilts[rows][x] = take("x|[0-8]").equals("x") ? null : Integer.parseInt(tokens.get(at - 1)) - 4;
            }
            rows++;
        } else {
            int x = takeNumber(0, wide - 1);
            int y = takeNumber(0, rows - 1);
            if (image.tilts[y][x] == null) {
                throw new Fault(places.get(at - 1));
            }
            startX = x;
            startY = y;
            image.x = x;
            image.y = y;
        }
    }

    // ---- deeds

    private boolean isCell(int x, int y) {
        return x >= 0 && x < wide && y >= 0 && y < rows && image.tilts[y][x] != null;
    }

    int tilt(int x, int y) {
        return isCell(x, y) ? image.tilts[y][x] : NO;
    }

    int now(int what) {
        int[] all = {image.x < 0 ? NONE : 5 * image.y + image.x, image.lean, image.mover, image.verdicts[0],
            image.verdicts[1], image.objections[0], image.objections[1], undoable.size()};
        return what < 0 || what > 7 ? NO : all[what];
    }

    private boolean canPush(int way) {
        return image.x >= 0 && isCell(image.x + DX[way], image.y + DY[way]);
    }

    private void remember() {
        undoable.push(image.copy());
        if (undoable.size() > 10) {
            undoable.removeLast();
        }
    }

    int pushes(int way) {
        if (way < 0 || way > 3) {
            return BAD;
        }
        if (!canPush(way)) {
            return STATE;
        }
        remember();
        image.x += DX[way];
        image.y += DY[way];
        image.lean += image.tilts[image.y][image.x] + leaning;
        if (Math.abs(image.lean) < limit) {
            image.mover ^= 1;
            return 0;
        }
        int side = image.lean < 0 ? 1 : 2;
        int rut = image.tilts[image.y][image.x] + (side == 1 ? -1 : 1);
        if (rut >= -4 && rut <= 4) {
            image.tilts[image.y][image.x] = rut;
        }
        image.verdicts[side - 1]++;
        image.objections = new int[2];
        image.x = startX;
        image.y = startY;
        image.lean = 0;
        image.mover = side == 1 ? 1 : 0;
        return side;
    }

    int objects() {
        if (startX < 0 || image.objections[image.mover] == 3) {
            return STATE;
        }
        remember();
        image.objections[image.mover]++;
        image.mover ^= 1;
        return image.mover;
    }

    int evens(int x, int y, int t) {
        if (!isCell(x, y) || t < -4 || t > 4 || image.tilts[y][x] == t) {
            return NO;
        }
        remember();
        int was = image.tilts[y][x];
        image.tilts[y][x] = t;
        return was;
    }

    int undo() {
        if (undoable.isEmpty()) {
            return STATE;
        }
        image = undoable.pop();
        return undoable.size();
    }

    // ---- what would be: each question is put to a copy that is pushed

    private Model copy() {
        Model model = new Model();
        model.wide = wide;
        model.rows = rows;
        model.startX = startX;
        model.startY = startY;
        model.limit = limit;
        model.leaning = leaning;
        model.image = image.copy();
        return model;
    }

    int would(int way) {
        if (way < 0 || way > 3) {
            return BAD;
        }
        return canPush(way) ? copy().pushes(way) : STATE;
    }

    private int all() {
        return 20 * 19 * 2;
    }

    private int stateNow() {
        return ((image.y * 5 + image.x) * 19 + image.lean + 9) * 2 + image.mover;
    }

    /** Per state and way: -2 can't, -1 and 0 less a side: tips; a state. */
    private int[][] pushesOfAll() {
        int[][] leads = new int[all()][4];
        Model model = copy();
        for (int y = 0; y < rows; y++) {
            for (int x = 0; x < wide; x++) {
                for (int lean = 1 - limit; lean < limit; lean++) {
                    for (int mover = 0; mover < 2 && isCell(x, y); mover++) {
                        for (int way = 0; way < 4; way++) {
                            model.image = image.copy();
                            model.image.x = x;
                            model.image.y = y;
                            model.image.lean = lean;
                            model.image.mover = mover;
                            int state = model.stateNow();
                            int end = model.pushes(way);
                            leads[state][way] = end < 0 ? -9 : end > 0 ? -end : model.stateNow();
                        }
                    }
                }
            }
        }
        return leads;
    }

    /**
     * Who has forced it within n pushes, for n from 0 on until nothing changes: per state 100 times
     * the side and the pushes, 0 for neither.
     */
    private int[] playOut(int[][] leads) {
        int[] outcomes = new int[all()];
        boolean changed = true;
        for (int n = 0; changed || n < 2; n++) {
            changed = false;
            int[] next = outcomes.clone();
            for (int state = 0; state < all(); state++) {
                if (outcomes[state] == 0) {
                    next[state] = outcomeWithin(state, n, leads[state], outcomes);
                    changed |= next[state] != 0;
                }
            }
            outcomes = next;
        }
        return outcomes;
    }

    private static int outcomeWithin(int state, int n, int[] leads, int[] outcomes) {
        int own = state % 2 + 1;
        boolean canMove = false;
        boolean allLost = true;
        for (int lead : leads) {
            if (lead == -9) {
                continue;
            }
            canMove = true;
            int side = lead < 0 ? (n >= 1 ? -lead : 0) : outcomes[lead] / 1000;
            if (side == own) {
                return 1000 * own + n;
            }
            allLost &= side == 3 - own;
        }
        if (!canMove) {
            return 1000 * (3 - own);
        }
        return allLost ? 1000 * (3 - own) + n : 0;
    }

    private int outcomeNow() {
        return playOut(pushesOfAll())[stateNow()];
    }

    int game(int what) {
        if (what < 0 || what > 1) {
            return BAD;
        }
        if (startX < 0) {
            return STATE;
        }
        int outcome = outcomeNow();
        return what == 0 ? outcome / 1000 : outcome == 0 ? NONE : outcome % 1000;
    }

    int advice() {
        if (startX < 0) {
            return STATE;
        }
        int[][] leads = pushesOfAll();
        int[] outcomes = playOut(leads);
        int due = outcomes[stateNow()];
        for (int way = 0; way < 4; way++) {
            int lead = leads[stateNow()][way];
            if (lead == -9) {
                continue;
            }
            int outcome = lead < 0 ? 1000 * -lead : outcomes[lead];
            if (due == 0 ? outcome == 0 : outcome == due - 1) {
                return way;
            }
        }
        return NONE;
    }

    /** The first of the shortest rows, or null: rows that come to the same spot later are dropped. */
    private String soonestRow(int side) {
        int[][] leads = pushesOfAll();
        List<String> rowsSoFar = List.of("");
        List<Integer> ends = List.of(stateNow() / 2);
        boolean[] seen = new boolean[all()];
        while (!rowsSoFar.isEmpty()) {
            List<String> longer = new ArrayList<>();
            List<Integer> longerEnds = new ArrayList<>();
            List<String> tipping = new ArrayList<>();
            for (int i = 0; i < rowsSoFar.size(); i++) {
                for (int way = 0; way < 4; way++) {
                    int lead = leads[2 * ends.get(i)][way];
                    if (lead == -side) {
                        tipping.add(rowsSoFar.get(i) + way);
                    } else if (lead >= 0 && !seen[lead / 2]) {
                        seen[lead / 2] = true;
                        longer.add(rowsSoFar.get(i) + way);
                        longerEnds.add(lead / 2);
                    }
                }
            }
            if (!tipping.isEmpty()) {
                return tipping.stream().sorted().findFirst().get();
            }
            rowsSoFar = longer;
            ends = longerEnds;
        }
        return null;
    }

    int soonest(int side, int k) {
        if (side != 1 && side != 2 || k < -1) {
            return BAD;
        }
        if (startX < 0) {
            return STATE;
        }
        String row = soonestRow(side);
        if (row == null) {
            return NONE;
        }
        return k == -1 ? row.length() : k < row.length() ? row.charAt(k) - '0' : -5;
    }

    /** Of 20736 parts, how many tip to the side. */
    private long partsThatTip(int side, int n) {
        if (n == 0) {
            return 0;
        }
        long sum = 0;
        int ways = 0;
        for (int way = 0; way < 4; way++) {
            if (canPush(way)) {
                ways++;
                Model model = copy();
                int end = model.pushes(way);
                sum += end == side ? 20736 : end == 0 ? model.partsThatTip(side, n - 1) : 0;
            }
        }
        return ways == 0 ? 0 : sum / ways;
    }

    int odds(int side, int n, int what) {
        if (side != 1 && side != 2 || n < 0 || n > 4 || what < 0 || what > 1) {
            return BAD;
        }
        if (startX < 0) {
            return STATE;
        }
        long upper = partsThatTip(side, n);
        long lower = 20736;
        for (int divisor = 2; divisor <= 3; divisor++) {
            while (upper % divisor == 0 && lower % divisor == 0) {
                upper /= divisor;
                lower /= divisor;
            }
        }
        return (int) (what == 0 ? upper : lower);
    }

    int decides() {
        if (startX < 0) {
            return STATE;
        }
        int bits = 0;
        int winner = game(0);
        for (int number = 0; number < 20; number++) {
            int x = number % 5;
            int y = number / 5;
            if (isCell(x, y) && image.tilts[y][x] != 0) {
                Model model = copy();
                model.image.tilts[y][x] = 0;
                bits += model.game(0) != winner ? 1 << number : 0;
            }
        }
        return bits;
    }

    // ---- told, kinds, images

    int tells(int way) {
        if (way < 0 || way > 3) {
            return BAD;
        }
        if (told.size() == 8) {
            return FULL;
        }
        told.add(way);
        return told.size();
    }

    int forget() {
        int were = told.size();
        told.clear();
        return were;
    }

    int leanings(int how) {
        if (how < 0 || how > 2) {
            return BAD;
        }
        if (startX < 0) {
            return STATE;
        }
        int bits = 0;
        for (int guess = -2; guess <= 2; guess++) {
            Model model = copy();
            model.leaning = guess;
            model.image.x = startX;
            model.image.y = startY;
            model.image.lean = 0;
            String ends = "";
            for (int way : told) {
                int end = model.pushes(way);
                ends += end < 0 ? "off" : "" + end;
            }
            String due = "0".repeat(Math.max(0, told.size() - 1)) + (told.isEmpty() ? "" : "" + how);
            bits |= ends.equals(due) && (how == 0 || !told.isEmpty()) ? 1 << guess + 2 : 0;
        }
        return bits;
    }

    int rate(int kind, int x, int y) {
        if (kind < 0 || kind > 5 || !isCell(x, y)) {
            return NO;
        }
        int tilt = image.tilts[y][x];
        trace += new long[] {1, 11, 101, 1011, 10101, 100001}[kind];
        return new int[] {tilt, tilt + x, tilt - image.lean, 2 * (tilt + x), tilt - image.lean + y,
            tilt + image.verdicts[0] + image.verdicts[1]}[kind];
    }

    int keep(int which) {
        if (which < 0 || which > 1) {
            return BAD;
        }
        kept[which] = image.copy();
        return Arrays.stream(image.verdicts).sum();
    }

    int back(int which) {
        if (which < 0 || which > 1) {
            return BAD;
        }
        if (kept[which] == null) {
            return STATE;
        }
        image = kept[which].copy();
        undoable.clear();
        return Arrays.stream(image.verdicts).sum();
    }

    int count(int what) {
        int[] all = {wide, rows, startX < 0 ? NONE : 5 * startY + startX, limit, leaning + 2, told.size(), text.length()};
        return what < 0 || what > 6 ? BAD : all[what];
    }

    long trace() {
        return trace;
    }
}
