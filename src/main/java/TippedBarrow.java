import java.util.Arrays;

/** Justice by wheelbarrow: a judge in a barrow is pushed about a yard by two parties in turn. */
public final class TippedBarrow {
    public static final int BAD = -1, STATE = -2, FULL = -3, NONE = -9;
    public static final int NO = -1000000;

    private static final int ACROSS = 5;
    private static final int DOWN = 4;
    private static final int CELLS = ACROSS * DOWN;
    /** Stands where a TILT would: a brick, or no CELL at all, since neither can be pushed to. */
    private static final int BRICK = 100;
    private static final int WAYS = 4;
    private static final int FIRST_LIMIT = 5;
    /** The barrow has not tipped yet, so LEAN is nearer to 0 than the largest LIMIT, 9. */
    private static final int MOST_LEAN = 8;
    private static final int LEANS = 2 * MOST_LEAN + 1;
    private static final int SPOTS = CELLS * LEANS;
    private static final int MOST_LETTERS = 120;
    private static final int MOST_TOLD = 8;
    private static final int MOST_VERDICTS = 999;
    private static final int MOST_OBJECTIONS = 3;
    private static final int IMAGES = 2;
    private static final int LEANINGS = 5;
    private static final int LEVEL_LEANING = 2;
    private static final int MOST_TILT = 4;
    private static final int MOST_ODDS = 4;
    private static final int NOT_SO_MANY = -5;

    private final Text text = new Text();
    private final Reader reader = new Reader(text);
    private Plan plan = new Plan();
    private Plan draft = new Plan();
    private final Moment present = new Moment();
    private final Ground ground = new Ground(present.tilts);
    private final Ground trial = new Ground(new int[CELLS]);
    private final History history = new History();
    private final Moment[] images = {new Moment(), new Moment()};
    private final boolean[] kept = new boolean[IMAGES];
    private final int[] toldWays = new int[MOST_TOLD];
    private int told;
    private long traced;
    private final Contest contest = new Contest();
    private final Walk walk = new Walk();
    private final Chance chance = new Chance();

    public TippedBarrow() {
    }

    // ---- the yard

    public int type(int letter) {
        if (letter < 0 || letter > 255) {
            return BAD;
        }
        return text.add(letter) ? text.length : FULL;
    }

    public int clear() {
        int had = text.length;
        text.length = 0;
        return had;
    }

    public int yard() {
        int items = reader.read(draft);
        if (items < 0) {
            return items;
        }
        Plan old = plan;
        plan = draft;
        draft = old;
        text.length = 0;
        ground.limit = plan.limit;
        ground.leaning = plan.leaning;
        present.begin(plan);
        ground.survey();
        history.known = 0;
        told = 0;
        for (int i = 0; i < IMAGES; i++) {
            kept[i] = false;
        }
        return items;
    }

    public int tilt(int x, int y) {
        int cell = cellAt(x, y);
        return ground.isBrick(cell) ? NO : present.tilts[cell];
    }

    public int now(int what) {
        switch (what) {
            case 0: return present.barrow;
            case 1: return present.lean;
            case 2: return present.mover;
            case 3: return present.verdicts[0];
            case 4: return present.verdicts[1];
            case 5: return present.objections[0];
            case 6: return present.objections[1];
            case 7: return history.known;
            default: return NO;
        }
    }

    /** The number of a CELL; -1: there is none, whatever the yard. */
    private static int cellAt(int x, int y) {
        if (x < 0 || x >= ACROSS || y < 0 || y >= DOWN) {
            return -1;
        }
        return ACROSS * y + x;
    }

    private boolean hasNoStart() {
        return plan.start == NONE;
    }

    // ---- what is done

    public int pushes(int way) {
        if (isNoWay(way)) {
            return BAD;
        }
        int next = nextCell(way);
        if (next < 0) {
            return STATE;
        }
        history.save(present);
        int lean = ground.leanOn(next, present.lean);
        int verdict = ground.verdict(lean);
        if (verdict == 0) {
            present.barrow = next;
            present.lean = lean;
            present.mover = 1 - present.mover;
        } else {
            present.tip(next, verdict, plan.start);
        }
        return verdict;
    }

    public int objects() {
        int mover = present.mover;
        if (hasNoStart() || present.objections[mover] >= MOST_OBJECTIONS) {
            return STATE;
        }
        history.save(present);
        present.objections[mover]++;
        present.mover = 1 - mover;
        return present.mover;
    }

    public int evens(int x, int y, int t) {
        int cell = cellAt(x, y);
        if (ground.isBrick(cell) || t < -MOST_TILT || t > MOST_TILT) {
            return NO;
        }
        int was = present.tilts[cell];
        if (was == t) {
            return NO;
        }
        history.save(present);
        present.tilts[cell] = t;
        return was;
    }

    public int undo() {
        return history.restore(present) ? history.known : STATE;
    }

    private static boolean isNoWay(int way) {
        return way < 0 || way >= WAYS;
    }

    /** Where a push NOW would bring the barrow; -1: it can't be pushed so. */
    private int nextCell(int way) {
        if (hasNoStart() || present.verdicts[0] >= MOST_VERDICTS || present.verdicts[1] >= MOST_VERDICTS) {
            return -1;
        }
        return ground.beyond(present.barrow, way);
    }

    // ---- what would be

    public int would(int way) {
        if (isNoWay(way)) {
            return BAD;
        }
        int next = nextCell(way);
        return next < 0 ? STATE : ground.verdict(ground.leanOn(next, present.lean));
    }

    public int game(int what) {
        if (what < 0 || what > 1) {
            return BAD;
        }
        if (hasNoStart()) {
            return STATE;
        }
        contest.solve(ground);
        int winner = contest.winner(present.barrow, present.lean, present.mover);
        if (what == 0) {
            return winner;
        }
        return winner == 0 ? NONE : contest.length(present.barrow, present.lean, present.mover);
    }

    public int advice() {
        if (hasNoStart()) {
            return STATE;
        }
        contest.solve(ground);
        for (int way = 0; way < WAYS; way++) {
            int next = ground.beyond(present.barrow, way);
            if (next >= 0 && comesSo(next)) {
                return way;
            }
        }
        return NONE;
    }

    public int soonest(int side, int k) {
        if (isNoSide(side) || k < -1) {
            return BAD;
        }
        if (hasNoStart()) {
            return STATE;
        }
        int length = walk.seek(ground, present.barrow, present.lean, side);
        if (length == NONE || k == -1) {
            return length;
        }
        return k < length ? walk.wayAt(k) : NOT_SO_MANY;
    }

    public int odds(int side, int n, int what) {
        if (isNoSide(side) || n < 0 || n > MOST_ODDS || what < 0 || what > 1) {
            return BAD;
        }
        if (hasNoStart()) {
            return STATE;
        }
        chance.reckon(ground, present.barrow, present.lean, side, n);
        return what == 0 ? chance.upper : chance.lower;
    }

    public int decides() {
        if (hasNoStart()) {
            return STATE;
        }
        contest.solve(ground);
        int winner = contest.winner(present.barrow, present.lean, present.mover);
        int bits = 0;
        trial.become(ground);
        for (int cell = 0; cell < CELLS; cell++) {
            int was = trial.tilts[cell];
            if (was == BRICK || was == 0) {
                continue;
            }
            trial.tilts[cell] = 0;
            contest.solve(trial);
            if (contest.winner(present.barrow, present.lean, present.mover) != winner) {
                bits |= 1 << cell;
            }
            trial.tilts[cell] = was;
        }
        return bits;
    }

    private static boolean isNoSide(int side) {
        return side < 1 || side > 2;
    }

    /** Whether a push to the next CELL keeps what the solved GAME says of NOW. */
    private boolean comesSo(int next) {
        int winner = contest.winner(present.barrow, present.lean, present.mover);
        int length = contest.length(present.barrow, present.lean, present.mover);
        int lean = ground.leanOn(next, present.lean);
        int verdict = ground.verdict(lean);
        if (verdict != 0) {
            return verdict == winner && length == 1;
        }
        int other = 1 - present.mover;
        if (contest.winner(next, lean, other) != winner) {
            return false;
        }
        return winner == 0 || contest.length(next, lean, other) == length - 1;
    }

    // ---- what was told

    public int tells(int way) {
        if (isNoWay(way)) {
            return BAD;
        }
        if (told >= MOST_TOLD) {
            return FULL;
        }
        toldWays[told] = way;
        told++;
        return told;
    }

    public int forget() {
        int were = told;
        told = 0;
        return were;
    }

    public int leanings(int how) {
        if (how < 0 || how > 2) {
            return BAD;
        }
        if (hasNoStart()) {
            return STATE;
        }
        int bits = 0;
        trial.become(ground);
        for (int i = 0; i < LEANINGS; i++) {
            trial.leaning = i - LEVEL_LEANING;
            if (endOfTold(trial) == how) {
                bits |= 1 << i;
            }
        }
        return bits;
    }

    /** How the TOLD WAYS end: 0 not tipped, 1, 2 by the last one; -1: they can't be pushed so. */
    private int endOfTold(Ground on) {
        int cell = plan.start;
        int lean = 0;
        int verdict = 0;
        for (int i = 0; i < told && i < MOST_TOLD; i++) {
            int next = on.beyond(cell, toldWays[i]);
            if (verdict != 0 || next < 0) {
                return -1;
            }
            cell = next;
            lean = on.leanOn(next, lean);
            verdict = on.verdict(lean);
        }
        return verdict;
    }

    // ---- kinds, images

    public int rate(int kind, int x, int y) {
        int cell = cellAt(x, y);
        if (ground.isBrick(cell)) {
            return NO;
        }
        switch (kind) {
            case 0: return rateCell(cell);
            case 1: return rateRut(cell);
            case 2: return ratePuddle(cell);
            case 3: return ratePlank(cell);
            case 4: return rateBean(cell);
            case 5: return rateQuarry(cell);
            default: return NO;
        }
    }

    public int keep(int image) {
        if (image < 0 || image >= IMAGES) {
            return BAD;
        }
        images[image].become(present);
        kept[image] = true;
        return present.allVerdicts();
    }

    public int back(int image) {
        if (image < 0 || image >= IMAGES) {
            return BAD;
        }
        if (!kept[image]) {
            return STATE;
        }
        present.become(images[image]);
        history.known = 0;
        return present.allVerdicts();
    }

    public int count(int what) {
        switch (what) {
            case 0: return plan.wide;
            case 1: return plan.rows;
            case 2: return plan.start;
            case 3: return plan.limit;
            case 4: return plan.leaning + LEVEL_LEANING;
            case 5: return told;
            case 6: return text.length;
            default: return BAD;
        }
    }

    public long trace() {
        return traced;
    }

    private int rateCell(int cell) {
        traced += 1;
        return present.tilts[cell];
    }

    private int rateRut(int cell) {
        traced += 10;
        return rateCell(cell) + cell % ACROSS;
    }

    private int ratePuddle(int cell) {
        traced += 100;
        return rateCell(cell) - present.lean;
    }

    private int ratePlank(int cell) {
        traced += 1000;
        return 2 * rateRut(cell);
    }

    private int rateBean(int cell) {
        traced += 10000;
        return ratePuddle(cell) + cell / ACROSS;
    }

    private int rateQuarry(int cell) {
        traced += 100000;
        return rateCell(cell) + present.allVerdicts();
    }

    /** THE TEXT, as it was typed. */
    private static final class Text {
        final int[] letters = new int[MOST_LETTERS];
        int length;

        boolean add(int letter) {
            if (length < 0 || length >= MOST_LETTERS) {
                return false;
            }
            letters[length] = letter;
            length++;
            return true;
        }

        /** -1 behind the last letter. */
        int letterAt(int place) {
            return place < 0 || place >= length || place >= MOST_LETTERS ? -1 : letters[place];
        }
    }

    /** What a text tells. */
    private static final class Plan {
        final int[] tilts = new int[CELLS];
        int wide;
        int rows;
        int start;
        int limit;
        int leaning;

        Plan() {
            empty();
        }

        void empty() {
            Arrays.fill(tilts, BRICK);
            wide = 0;
            rows = 0;
            start = NONE;
            limit = FIRST_LIMIT;
            leaning = 0;
        }
    }

    /** Reads THE TEXT into a plan; where it stops, the TOKEN in hand is the one at FAULT. */
    private static final class Reader {
        // A TOKEN that is a letter is told by the letter itself, so these lie beside all letters.
        private static final int END = -1, NUMBER = -2, WRONG_NUMBER = -3;
        private static final int MOST_TOKENS = MOST_LETTERS + 1;

        private final Text text;
        private final int[] tokens = new int[MOST_TOKENS];
        private final int[] numbers = new int[MOST_TOKENS];
        private final int[] places = new int[MOST_TOKENS];
        private int found;
        private int inHand;
        private Plan plan;
        private boolean limitTold;
        private boolean leaningTold;

        Reader(Text text) {
            this.text = text;
        }

        /** How many ITEMS, or -10 less FAULT. */
        int read(Plan into) {
            plan = into;
            plan.empty();
            limitTold = false;
            leaningTold = false;
            inHand = 0;
            split();
            for (int items = 0; items < MOST_TOKENS; items++) {
                if (isInHand(END)) {
                    return items;
                }
                if (!readItem(items) || !isInHand(';')) {
                    break;
                }
                inHand++;
            }
            return -10 - (inHand < found ? places[inHand] : text.length);
        }

        private void split() {
            found = 0;
            for (int place = 0; place < text.length; place++) {
                int letter = text.letterAt(place);
                if (isDigit(letter)) {
                    addDigit(letter - '0', place);
                } else if (letter != ' ') {
                    addToken(letter, place, 0);
                }
            }
            addToken(END, text.length, 0);
        }

        private void addToken(int token, int place, int number) {
            if (found < MOST_TOKENS) {
                tokens[found] = token;
                places[found] = place;
                numbers[found] = number;
                found++;
            }
        }

        private void addDigit(int digit, int place) {
            int last = found - 1;
            if (last < 0 || !isDigit(text.letterAt(place - 1))) {
                addToken(NUMBER, place, digit);
                return;
            }
            int ahead = numbers[last];
            // Held at 100, so that a long row of digits can't run over.
            numbers[last] = Math.min(100, 10 * ahead + digit);
            if (ahead == 0 || numbers[last] > 99) {
                tokens[last] = WRONG_NUMBER;
            }
        }

        private static boolean isDigit(int letter) {
            return letter >= '0' && letter <= '9';
        }

        private boolean isInHand(int token) {
            return inHand < found && tokens[inHand] == token;
        }

        private boolean readItem(int itemsAhead) {
            if (inHand >= found) {
                return false;
            }
            switch (tokens[inHand]) {
                case 'w': return itemsAhead == 0 && readWide();
                case 'r': return readRow();
                case 'b': return readStart();
                case 'k': return readLimit();
                case 'j': return readLeaning();
                default: return false;
            }
        }

        private boolean readWide() {
            inHand++;
            int wide = readNumber(1, ACROSS);
            if (wide < 0) {
                return false;
            }
            plan.wide = wide;
            return true;
        }

        private boolean readRow() {
            if (plan.wide == 0 || plan.start != NONE || plan.rows >= DOWN) {
                return false;
            }
            inHand++;
            for (int x = 0; x < plan.wide; x++) {
                int cell = cellAt(x, plan.rows);
                if (cell < 0 || !readCell(cell)) {
                    return false;
                }
            }
            plan.rows++;
            return true;
        }

        private boolean readCell(int cell) {
            if (isInHand('x')) {
                inHand++;
                plan.tilts[cell] = BRICK;
                return true;
            }
            int steps = readNumber(0, 2 * MOST_TILT);
            if (steps < 0) {
                return false;
            }
            plan.tilts[cell] = steps - MOST_TILT;
            return true;
        }

        private boolean readStart() {
            if (plan.start != NONE) {
                return false;
            }
            inHand++;
            int x = readNumber(0, plan.wide - 1);
            // A brick is a FAULT at Y, so it is looked for while that TOKEN is still in hand.
            if (x < 0 || !isInHand(NUMBER) || numbers[inHand] >= plan.rows) {
                return false;
            }
            int cell = cellAt(x, numbers[inHand]);
            if (cell < 0 || plan.tilts[cell] == BRICK) {
                return false;
            }
            inHand++;
            plan.start = cell;
            return true;
        }

        private boolean readLimit() {
            if (limitTold) {
                return false;
            }
            limitTold = true;
            inHand++;
            int limit = readNumber(2, MOST_LEAN + 1);
            if (limit < 0) {
                return false;
            }
            plan.limit = limit;
            return true;
        }

        private boolean readLeaning() {
            if (leaningTold) {
                return false;
            }
            leaningTold = true;
            inHand++;
            int leaning = readNumber(0, LEANINGS - 1);
            if (leaning < 0) {
                return false;
            }
            plan.leaning = leaning - LEVEL_LEANING;
            return true;
        }

        /** The NUMBER in hand, and goes on; -1, and stays: it is none of low .. high. */
        private int readNumber(int low, int high) {
            if (!isInHand(NUMBER) || numbers[inHand] < low || numbers[inHand] > high) {
                return -1;
            }
            int number = numbers[inHand];
            inHand++;
            return number;
        }
    }

    /** All that a verdict, an undoing or an IMAGE changes. */
    private static final class Moment {
        final int[] tilts = new int[CELLS];
        final int[] verdicts = new int[2];
        final int[] objections = new int[2];
        int barrow = NONE;
        int lean;
        int mover;

        Moment() {
            Arrays.fill(tilts, BRICK);
        }

        void begin(Plan plan) {
            System.arraycopy(plan.tilts, 0, tilts, 0, CELLS);
            Arrays.fill(verdicts, 0);
            Arrays.fill(objections, 0);
            barrow = plan.start;
            lean = 0;
            mover = 0;
        }

        void become(Moment other) {
            System.arraycopy(other.tilts, 0, tilts, 0, CELLS);
            System.arraycopy(other.verdicts, 0, verdicts, 0, 2);
            System.arraycopy(other.objections, 0, objections, 0, 2);
            barrow = other.barrow;
            lean = other.lean;
            mover = other.mover;
        }

        /** A VERDICT to a side (1, 2) on a CELL, which leaves a rut there. */
        void tip(int cell, int side, int start) {
            int rut = tilts[cell] + (side == 1 ? -1 : 1);
            tilts[cell] = Math.max(-MOST_TILT, Math.min(MOST_TILT, rut));
            verdicts[side == 1 ? 0 : 1]++;
            Arrays.fill(objections, 0);
            barrow = start;
            lean = 0;
            mover = side == 1 ? 1 : 0;
        }

        int allVerdicts() {
            return verdicts[0] + verdicts[1];
        }
    }

    /** What was ahead of the latest deeds. */
    private static final class History {
        private static final int MOST = 10;

        private final Moment[] moments = new Moment[MOST];
        private int newest;
        int known;

        History() {
            for (int i = 0; i < MOST; i++) {
                moments[i] = new Moment();
            }
        }

        void save(Moment moment) {
            newest = (newest + 1) % MOST;
            moments[newest].become(moment);
            known = Math.min(MOST, known + 1);
        }

        boolean restore(Moment moment) {
            if (known <= 0) {
                return false;
            }
            moment.become(moments[newest]);
            newest = (newest + MOST - 1) % MOST;
            known--;
            return true;
        }
    }

    /** Where a barrow can be pushed and how it leans there. */
    private static final class Ground {
        private static final int[] STEP_X = {0, 1, 0, -1};
        private static final int[] STEP_Y = {-1, 0, 1, 0};

        final int[] tilts;
        // Bricks stay where they are till a yard is read anew, so neighbours are looked up once.
        private final int[] neighbours = new int[CELLS * WAYS];
        int limit = FIRST_LIMIT;
        int leaning;

        Ground(int[] tilts) {
            this.tilts = tilts;
            Arrays.fill(neighbours, -1);
        }

        void survey() {
            for (int cell = 0; cell < CELLS; cell++) {
                for (int way = 0; way < WAYS; way++) {
                    int next = cellAt(cell % ACROSS + STEP_X[way], cell / ACROSS + STEP_Y[way]);
                    neighbours[WAYS * cell + way] = isBrick(cell) || isBrick(next) ? -1 : next;
                }
            }
        }

        void become(Ground other) {
            System.arraycopy(other.tilts, 0, tilts, 0, CELLS);
            System.arraycopy(other.neighbours, 0, neighbours, 0, CELLS * WAYS);
            limit = other.limit;
            leaning = other.leaning;
        }

        boolean isBrick(int cell) {
            return cell < 0 || cell >= CELLS || tilts[cell] == BRICK;
        }

        /** The CELL that a WAY leads to; -1: no CELL, or a brick. */
        int beyond(int cell, int way) {
            if (cell < 0 || cell >= CELLS || way < 0 || way >= WAYS) {
                return -1;
            }
            return neighbours[WAYS * cell + way];
        }

        int waysFrom(int cell) {
            int ways = 0;
            for (int way = 0; way < WAYS; way++) {
                if (beyond(cell, way) >= 0) {
                    ways++;
                }
            }
            return ways;
        }

        int gain(int cell) {
            return isBrick(cell) ? 0 : tilts[cell] + leaning;
        }

        int leanOn(int cell, int leanAhead) {
            return leanAhead + gain(cell);
        }

        int verdict(int lean) {
            if (lean <= -limit) {
                return 1;
            }
            return lean >= limit ? 2 : 0;
        }
    }

    /** A CELL and a LEAN on it as one number; -1: there is no such thing. */
    private static int spotOf(int cell, int lean) {
        if (cell < 0 || cell >= CELLS || lean < -MOST_LEAN || lean > MOST_LEAN) {
            return -1;
        }
        return LEANS * cell + lean + MOST_LEAN;
    }

    private static int cellOf(int spot) {
        return spot / LEANS;
    }

    private static int leanOf(int spot) {
        return spot % LEANS - MOST_LEAN;
    }

    /**
     * GAME from every spot and for each who is to push, found backwards from the ends: what is
     * settled is queued by its PUSHES, so the first win found is the fastest, the last loss the longest.
     */
    private static final class Contest {
        private static final int STATES = 2 * SPOTS;

        private final int[] winners = new int[STATES];
        private final int[] lengths = new int[STATES];
        private final int[] openWays = new int[STATES];
        private final int[] queue = new int[STATES];
        private int queued;
        private Ground ground;

        void solve(Ground on) {
            ground = on;
            queued = 0;
            Arrays.fill(winners, 0);
            for (int cell = 0; cell < CELLS; cell++) {
                if (ground.isBrick(cell)) {
                    continue;
                }
                for (int lean = -MOST_LEAN; lean <= MOST_LEAN; lean++) {
                    if (ground.verdict(lean) == 0) {
                        lookOnePushAhead(cell, lean);
                    }
                }
            }
            for (int i = 0; i < queued && i < STATES; i++) {
                passBack(queue[i]);
            }
        }

        /** 0: neither can force it. */
        int winner(int cell, int lean, int mover) {
            int state = stateOf(cell, lean, mover);
            return state < 0 ? 0 : winners[state];
        }

        /** In how many PUSHES, where there is a winner. */
        int length(int cell, int lean, int mover) {
            int state = stateOf(cell, lean, mover);
            return state < 0 ? 0 : lengths[state];
        }

        private static int stateOf(int cell, int lean, int mover) {
            int spot = spotOf(cell, lean);
            return spot < 0 || mover < 0 || mover > 1 ? -1 : 2 * spot + mover;
        }

        private void lookOnePushAhead(int cell, int lean) {
            int ways = 0;
            int open = 0;
            int tips = 0;
            for (int way = 0; way < WAYS; way++) {
                int next = ground.beyond(cell, way);
                if (next < 0) {
                    continue;
                }
                ways++;
                int verdict = ground.verdict(ground.leanOn(next, lean));
                if (verdict == 0) {
                    open++;
                }
                // The sides, 1 and 2, are bits of their own.
                tips |= verdict;
            }
            for (int mover = 0; mover < 2; mover++) {
                int state = stateOf(cell, lean, mover);
                if (state < 0) {
                    continue;
                }
                openWays[state] = open;
                if ((tips & sideOf(mover)) != 0) {
                    settle(state, sideOf(mover), 1);
                } else if (open == 0) {
                    settle(state, sideOf(1 - mover), ways == 0 ? 0 : 1);
                }
            }
        }

        private void passBack(int state) {
            int cell = cellOf(state / 2);
            int leanAhead = leanOf(state / 2) - ground.gain(cell);
            if (ground.verdict(leanAhead) != 0) {
                return;
            }
            for (int way = 0; way < WAYS; way++) {
                int from = stateOf(ground.beyond(cell, way), leanAhead, 1 - state % 2);
                if (from >= 0 && winners[from] == 0) {
                    settleFrom(from, winners[state], lengths[state] + 1);
                }
            }
        }

        /** One WAY of a state leads to a winner; the loser is settled by the last of his WAYS only. */
        private void settleFrom(int state, int winner, int length) {
            openWays[state]--;
            if (winner == sideOf(state % 2) || openWays[state] == 0) {
                settle(state, winner, length);
            }
        }

        private void settle(int state, int winner, int length) {
            winners[state] = winner;
            lengths[state] = length;
            if (queued < STATES) {
                queue[queued] = state;
                queued++;
            }
        }

        private static int sideOf(int party) {
            return party + 1;
        }
    }

    /**
     * SOONEST: spots in the order of how soon they are come to; among equals those of the first
     * row of WAYS are ahead, so the first tip that is found ends the first of the shortest rows.
     */
    private static final class Walk {
        private final int[] spots = new int[SPOTS];
        private final int[] cameFrom = new int[SPOTS];
        private final int[] cameBy = new int[SPOTS];
        private final int[] depths = new int[SPOTS];
        private final boolean[] seen = new boolean[SPOTS];
        private final int[] row = new int[SPOTS];
        private int found;
        private Ground ground;

        /** How many PUSHES; NONE. */
        int seek(Ground on, int cell, int lean, int side) {
            ground = on;
            found = 0;
            for (int i = 0; i < SPOTS; i++) {
                seen[i] = false;
            }
            visit(spotOf(cell, lean), -1, 0);
            for (int i = 0; i < found && i < SPOTS; i++) {
                int way = visitFrom(i, side);
                if (way >= 0) {
                    return write(i, way);
                }
            }
            return NONE;
        }

        int wayAt(int k) {
            return k < 0 || k >= SPOTS ? NONE : row[k];
        }

        /** The first WAY that tips it to the side from there; -1: there is none. */
        private int visitFrom(int at, int side) {
            int cell = cellOf(spots[at]);
            for (int way = 0; way < WAYS; way++) {
                int next = ground.beyond(cell, way);
                if (next < 0) {
                    continue;
                }
                int lean = ground.leanOn(next, leanOf(spots[at]));
                int verdict = ground.verdict(lean);
                if (verdict == side) {
                    return way;
                }
                if (verdict == 0) {
                    visit(spotOf(next, lean), at, way);
                }
            }
            return -1;
        }

        private void visit(int spot, int from, int way) {
            if (spot < 0 || seen[spot] || found >= SPOTS) {
                return;
            }
            seen[spot] = true;
            spots[found] = spot;
            cameFrom[found] = from;
            cameBy[found] = way;
            depths[found] = from < 0 ? 0 : depths[from] + 1;
            found++;
        }

        /** Writes the row down, last WAY first. */
        private int write(int last, int lastWay) {
            int length = depths[last] + 1;
            int at = last;
            int way = lastWay;
            for (int k = length - 1; k >= 0 && k < SPOTS && at >= 0; k--) {
                row[k] = way;
                way = cameBy[at];
                at = cameFrom[at];
            }
            return length;
        }
    }

    /** ODDS: how likely each spot is, in parts of 12 to the power of the PUSHES so far. */
    private static final class Chance {
        /** Can be shared out evenly among 1, 2, 3 and 4 WAYS. */
        private static final int PARTS = 12;

        private int[] parts = new int[SPOTS];
        private int[] partsThen = new int[SPOTS];
        int upper;
        int lower;
        private Ground ground;
        private int side;

        void reckon(Ground on, int cell, int lean, int toSide, int n) {
            ground = on;
            side = toSide;
            upper = 0;
            lower = 1;
            int first = spotOf(cell, lean);
            if (first < 0) {
                return;
            }
            Arrays.fill(parts, 0);
            parts[first] = 1;
            for (int push = 0; push < n; push++) {
                pushOnce();
            }
            int divisor = commonDivisor(upper, lower);
            if (divisor > 1) {
                upper /= divisor;
                lower /= divisor;
            }
        }

        private void pushOnce() {
            upper *= PARTS;
            lower *= PARTS;
            Arrays.fill(partsThen, 0);
            for (int spot = 0; spot < SPOTS; spot++) {
                if (parts[spot] > 0) {
                    shareOut(spot);
                }
            }
            int[] old = parts;
            parts = partsThen;
            partsThen = old;
        }

        private void shareOut(int spot) {
            int cell = cellOf(spot);
            int ways = ground.waysFrom(cell);
            if (ways <= 0) {
                partsThen[spot] += PARTS * parts[spot];
                return;
            }
            int share = PARTS / ways * parts[spot];
            for (int way = 0; way < WAYS; way++) {
                int next = ground.beyond(cell, way);
                if (next < 0) {
                    continue;
                }
                int lean = ground.leanOn(next, leanOf(spot));
                int verdict = ground.verdict(lean);
                int then = spotOf(next, lean);
                if (verdict == side) {
                    upper += share;
                } else if (verdict == 0 && then >= 0) {
                    partsThen[then] += share;
                }
            }
        }

        private static int commonDivisor(int a, int b) {
            int large = a;
            int small = b;
            for (int i = 0; i < 64 && small > 0; i++) {
                int rest = large % small;
                large = small;
                small = rest;
            }
            return large;
        }
    }
}
