import java.util.Arrays;

/** Seeds of storms on a flat land by cells: ../shared/DOC.md says what each call answers. */
public final class StormSeeds {
    public static final int NONE = -1;

    private static final int CELLS = 64;
    private static final int LEAST_SIDE = 2;
    private static final int MOST_SIDE = 7;
    private static final int MOST_KINDS = 8;
    private static final int MOST_CROSSINGS = 10;
    private static final int MOST_LINES = 16;
    private static final int MOST_WANTS = 10;
    private static final int MOST_BOOK = 150;
    private static final int MOST_TAPE = 400;
    private static final int MOST_BIRDS = 1000;
    private static final int MOST_WET = 9;
    private static final int MOST_GUST = 9;
    private static final int MOST_HARM = 99;
    private static final int MOST_NUMBER = 9999;
    private static final int LAST_DAY = 999;
    private static final int THOUGHT_DAYS = 60;
    private static final int GETS_DAYS = 99;
    private static final int WHO_DAYS = 30;
    private static final int GUST_DAYS = 99;
    private static final int YEARS = 60;
    private static final int MILLION = 1000000;
    private static final int MOST_WEEDS = 10;
    private static final int KEPT = 6;
    private static final int UNKNOWN_LOOK = NONE - 999999;

    // Columns of the tables.
    private static final int SOIL = 0;
    private static final int LASTS = 1;
    private static final int SPREAD = 2;
    private static final int CROSS_TO = 2;
    private static final int WANT_KIND = 0;
    private static final int WANT_CELL = 1;
    private static final int WANT_DAY = 2;
    private static final int WANT_WORTH = 3;
    private static final int PLAN_DAY = 0;
    private static final int PLAN_DEED = 1;
    private static final int PLAN_VALUE = 2;
    private static final int PLAN_CELL = 3;

    // Deeds of a plan; the first two are those of the book, too.
    private static final int SOWN = 0;
    private static final int WEEDED = 1;
    private static final int TURNED = 2;

    // What else the book tells.
    private static final int CAME_UP = 2;
    private static final int DID_NOT = 3;
    private static final int GONE = 4;
    private static final int FELL = 5;
    private static final int BY_BIRDS = 6;

    // The two words of a line of the law.
    private static final int GUST = 0;
    private static final int HARM = 1;

    // The faults of a text.
    private static final int MISPLACED = 1;
    private static final int BEYOND = 2;
    private static final int TOO_MANY = 3;

    private final Land land = new Land();
    private final Told told = new Told();
    private final Table book = new Table(MOST_BOOK);
    private final Land takenLand = new Land();
    private final Told takenTold = new Told();
    private final Table takenBook = new Table(MOST_BOOK);
    private boolean isTaken;
    private final Tape tape = new Tape();
    private final Reader reader = new Reader(tape, told, land);
    private final Weather weather = new Weather(told, book);
    private final Thought thought = new Thought(told, land);
    private final History history = new History();

    public StormSeeds() {
        land.begin(5, 4);
    }

    public int state(int v) {
        int was = land.draws;
        land.draws = v;
        history.forget();
        return was;
    }

    public boolean land(int w, int h) {
        if (!isWithin(w, LEAST_SIDE, MOST_SIDE) || !isWithin(h, LEAST_SIDE, MOST_SIDE)) {
            return false;
        }
        land.begin(w, h);
        told.forget();
        book.clear();
        history.forget();
        return true;
    }

    public boolean set(int what, int cell, int v) {
        boolean isSet = what == 0 ? land.putBirds(v)
                : what == 1 ? land.putWet(cell, v)
                : what == 2 && land.putHedge(cell, v);
        if (isSet) {
            history.forget();
        }
        return isSet;
    }

    public int feed(int a, int b, int c, int d, int e) {
        if (!tape.hasRoom(20)) {
            return NONE;
        }
        tape.append(a);
        tape.append(b);
        tape.append(c);
        tape.append(d);
        tape.append(e);
        return tape.size;
    }

    public boolean end(int n) {
        if (n < 0 || n > tape.size) {
            return false;
        }
        tape.size = n;
        return true;
    }

    public int text(int k) {
        tape.begin();
        int lines = k == 0 ? reader.readKinds()
                : k == 1 ? reader.readLaw()
                : k == 2 ? reader.readWants()
                : k == 3 ? reader.readPlan()
                : NONE;
        if (lines != NONE && k == 0) {
            land.clearSeedsAndStorms();
            told.wants.clear();
            told.plan.clear();
        }
        if (lines != NONE && (k == 0 || k == 3)) {
            history.forget();
        }
        tape.size = 0;
        return lines;
    }

    public int fault(int what) {
        return what == 0 ? tape.fault : what == 1 ? tape.faultPlace : NONE;
    }

    public boolean sow(int kind, int cell) {
        if (!told.hasKind(kind) || !land.isSowable(cell)) {
            return false;
        }
        history.keep(land, book);
        return weather.plant(land, kind, cell);
    }

    public boolean weed(int cell) {
        if (!land.hasSeed(cell)) {
            return false;
        }
        history.keep(land, book);
        return weather.pull(land, cell);
    }

    public boolean turn(int wind) {
        if (!land.isTurnable(wind)) {
            return false;
        }
        history.keep(land, book);
        return land.veer(wind);
    }

    public int days(int n) {
        if (!isWithin(n, 1, THOUGHT_DAYS) || land.day + n > LAST_DAY) {
            return NONE;
        }
        int up = 0;
        for (int i = 0; i < n; i++) {
            history.keep(land, book);
            up += weather.dawn(land, true);
            weather.dusk(land);
        }
        return up;
    }

    public int at(int cell, int what) {
        if (!land.isCell(cell)) {
            return NONE - 1;
        }
        boolean hasSeed = land.hasSeed(cell);
        boolean hasStorm = land.hasStorm(cell);
        switch (what) {
            case 0: return land.wet[cell];
            case 1: return land.hasHedge(cell) ? 1 : 0;
            case 2: return hasSeed ? land.seedKind[cell] : NONE;
            case 3: return hasSeed ? land.sown[cell] : NONE;
            case 4: return hasStorm ? land.stormKind[cell] : NONE;
            case 5: return hasStorm ? land.gusts[cell] : 0;
            case 6: return hasStorm ? land.ends[cell] : NONE;
            case 7: return beside(land.storms, cell);
            case 8: return beside(land.hedges, cell);
            case 9: return hasStorm ? told.law.ask(HARM, land, land.stormKind[cell], cell, 0) : 0;
            default: return NONE - 1;
        }
    }

    public int kind(int i, int what) {
        if (!told.hasKind(i)) {
            return NONE;
        }
        switch (what) {
            case 0: return told.kinds.of(i, SOIL);
            case 1: return told.kinds.of(i, LASTS);
            case 2: return told.kinds.of(i, SPREAD);
            case 3: return count(land.seeds, land.seedKind, i);
            case 4: return count(land.storms, land.stormKind, i);
            default: return NONE;
        }
    }

    public int cross(int a, int b) {
        return told.crossing(a, b);
    }

    public int gust(int kind, int cell, int n) {
        if (!told.hasKind(kind) || !land.isCell(cell) || !isWithin(n, 0, GUST_DAYS)) {
            return NONE;
        }
        return told.law.ask(GUST, land, kind, cell, n);
    }

    public int book(int i, int what) {
        return book.of(i, what);
    }

    public long blows(int n) {
        return isWithin(n, 1, THOUGHT_DAYS) ? thought.blowing(n).storms : NONE;
    }

    public int harms(int n) {
        return isWithin(n, 1, THOUGHT_DAYS) ? thought.blowing(n).harm - land.harm : NONE;
    }

    public int meets(int what) {
        return what == 0 || what == 1 ? thought.meeting(what == 0) : NONE;
    }

    public int sows(int want, int what) {
        int ahead = told.wants.of(want, WANT_DAY) - land.day;
        if (!told.wants.hasRow(want) || !isWithin(ahead, 0, THOUGHT_DAYS) || !isWithin(what, 0, 2)) {
            return NONE;
        }
        return thought.bestSeed(want, ahead + 1, what);
    }

    public int gets(int kind, int from, int to) {
        // "Another CELL": the one that is sown itself is none to get to.
        if (!told.hasKind(kind) || !land.isCell(from) || land.hasHedge(from)
                || !land.isCell(to) || from == to) {
            return NONE;
        }
        return thought.getting(kind, from, to);
    }

    public long weeds(long cells, int n, int what) {
        if ((cells & ~land.allCells()) != 0 || !isWithin(n, 1, THOUGHT_DAYS)
                || !isWithin(what, 0, 1) || Long.bitCount(land.seeds) > MOST_WEEDS) {
            return NONE;
        }
        long fewest = thought.fewestWeeds(cells, n);
        return fewest == NONE || what == 1 ? fewest : Long.bitCount(fewest);
    }

    public int have(int kinds) {
        if (!told.isSetOfKinds(kinds)) {
            return NONE;
        }
        int all = kinds;
        for (int i = 0; i < MOST_KINDS; i++) {
            all = told.nextGeneration(all);
        }
        return all;
    }

    public int generations(int kinds, int kind) {
        if (!told.isSetOfKinds(kinds) || !told.hasKind(kind)) {
            return NONE;
        }
        int all = kinds;
        // Each generation but the last brings a new kind, so there are no more of them than kinds.
        for (int i = 0; i <= MOST_KINDS; i++) {
            if (isIn(all, kind)) {
                return i;
            }
            all = told.nextGeneration(all);
        }
        return NONE;
    }

    public int who(int cell, int v, int what) {
        if (!land.isCell(cell) || !isWithin(v, 1, MOST_GUST) || !isWithin(what, 0, 2)) {
            return NONE;
        }
        int found = 0;
        for (int kind = 0; kind < told.kinds.rows; kind++) {
            for (int ago = told.kinds.of(kind, SOIL); ago <= WHO_DAYS; ago++) {
                if (told.law.ask(GUST, land, kind, cell, ago) != v) {
                    continue;
                }
                if (what != 0) {
                    return what == 1 ? kind : ago;
                }
                found++;
            }
        }
        return what == 0 ? found : NONE;
    }

    public int calm(int cell, int n, int what) {
        if (!land.isCell(cell) || !isWithin(n, 1, THOUGHT_DAYS) || !isWithin(what, 0, 1)) {
            return NONE;
        }
        return thought.longestCalm(cell, n, what == 0);
    }

    public int good(int n, int p) {
        if (!isWithin(n, 0, YEARS) || !isWithin(p, 0, 1000)) {
            return NONE;
        }
        int left = MILLION;
        for (int i = 0; i < n; i++) {
            left = yearLater(left, p);
        }
        return left;
    }

    public int open(int p, int g) {
        if (!isWithin(p, 0, 1000) || !isWithin(g, 0, 99)) {
            return NONE;
        }
        int best = 0;
        long most = NONE;
        int left = MILLION;
        for (int year = 0; year <= YEARS; year++) {
            long worth = (long) left * (100 + g * year) / 100;
            if (worth > most) {
                most = worth;
                best = year;
            }
            left = yearLater(left, p);
        }
        return best;
    }

    public int game(int what) {
        if (!isWithin(what, 0, 1)) {
            return NONE;
        }
        int balance = 0;
        for (int y = 0; y < MOST_SIDE; y++) {
            balance ^= land.seedsInRow(y);
        }
        for (int y = 0; y < MOST_SIDE; y++) {
            int there = land.seedsInRow(y);
            if ((there ^ balance) < there) {
                return what == 0 ? y : there ^ balance;
            }
        }
        return NONE;
    }

    public boolean undo() {
        return history.goBack(land, book);
    }

    public boolean image(boolean taken) {
        if (taken) {
            takenLand.copy(land);
            takenTold.copy(told);
            takenBook.copy(book);
            isTaken = true;
            return true;
        }
        if (!isTaken) {
            return false;
        }
        land.copy(takenLand);
        told.copy(takenTold);
        book.copy(takenBook);
        history.forget();
        return true;
    }

    public int look(int what) {
        switch (what) {
            case 0: return land.wide;
            case 1: return land.high;
            case 2: return land.day;
            case 3: return land.wind;
            case 4: return land.birds;
            case 5: return land.harm;
            case 6: return told.kinds.rows;
            case 7: return told.crossings.rows;
            case 8: return Long.bitCount(land.seeds);
            case 9: return Long.bitCount(land.storms);
            case 10: return book.rows;
            case 11: return land.draws;
            case 12: return told.law.lines.rows;
            case 13: return told.wants.rows;
            case 14: return told.plan.rows;
            case 15: return history.kept;
            default: return UNKNOWN_LOOK;
        }
    }

    private static boolean isWithin(int v, int least, int most) {
        return v >= least && v <= most;
    }

    private static boolean isIn(long set, int i) {
        return i >= 0 && i < CELLS && (set >>> i & 1L) != 0;
    }

    /** How many of the four cells beside one are in a set. */
    private static int beside(long set, int cell) {
        if (cell < 0 || cell >= CELLS) {
            return 0;
        }
        // A row has seven cells at most, so the eighth bit between two rows is in no set.
        long bit = 1L << cell;
        return Long.bitCount(set & (bit << 1 | bit >>> 1 | bit << 8 | bit >>> 8));
    }

    private static int count(long set, int[] kinds, int kind) {
        int found = 0;
        for (int cell = 0; cell < CELLS && cell < kinds.length; cell++) {
            if (isIn(set, cell) && kinds[cell] == kind) {
                found++;
            }
        }
        return found;
    }

    private static int yearLater(int good, int lost) {
        return (int) ((long) good * (1000 - lost) / 1000);
    }

    /** Rows of four numbers each, up to a most. */
    private static final class Table {
        private static final int WIDTH = 4;

        private final int most;
        private final int[] numbers;
        private int rows;

        private Table(int most) {
            this.most = Math.max(0, most);
            numbers = new int[this.most * WIDTH];
        }

        private boolean hasRow(int row) {
            return row >= 0 && row < rows;
        }

        private boolean isFull() {
            return rows >= most;
        }

        private int of(int row, int column) {
            if (!hasRow(row) || column < 0 || column >= WIDTH) {
                return NONE;
            }
            return numbers[row * WIDTH + column];
        }

        private void add(int a, int b, int c, int d) {
            if (rows >= most) {
                return;
            }
            int from = rows * WIDTH;
            numbers[from] = a;
            numbers[from + 1] = b;
            numbers[from + 2] = c;
            numbers[from + 3] = d;
            rows++;
        }

        private void cut(int n) {
            rows = Math.max(0, Math.min(n, rows));
        }

        private void clear() {
            rows = 0;
        }

        private void copy(Table from) {
            int n = Math.min(from.rows, most);
            System.arraycopy(from.numbers, 0, numbers, 0, n * WIDTH);
            rows = n;
        }
    }

    /** All that a day changes, and what can be set by hand. */
    private static final class Land {
        private int wide;
        private int high;
        private int day;
        private int wind;
        private int birds;
        private int harm;
        private int draws;
        private long hedges;
        private long seeds;
        private long storms;
        private final int[] wet = new int[CELLS];
        private final int[] seedKind = new int[CELLS];
        private final int[] sown = new int[CELLS];
        private final int[] stormKind = new int[CELLS];
        private final int[] gusts = new int[CELLS];
        private final int[] ends = new int[CELLS];

        private void begin(int w, int h) {
            wide = w;
            high = h;
            day = 0;
            wind = 1;
            birds = 0;
            harm = 0;
            hedges = 0;
            clearSeedsAndStorms();
            Arrays.fill(wet, 3);
        }

        private void clearSeedsAndStorms() {
            seeds = 0;
            storms = 0;
        }

        private void copy(Land from) {
            wide = from.wide;
            high = from.high;
            day = from.day;
            wind = from.wind;
            birds = from.birds;
            harm = from.harm;
            draws = from.draws;
            hedges = from.hedges;
            seeds = from.seeds;
            storms = from.storms;
            System.arraycopy(from.wet, 0, wet, 0, CELLS);
            System.arraycopy(from.seedKind, 0, seedKind, 0, CELLS);
            System.arraycopy(from.sown, 0, sown, 0, CELLS);
            System.arraycopy(from.stormKind, 0, stormKind, 0, CELLS);
            System.arraycopy(from.gusts, 0, gusts, 0, CELLS);
            System.arraycopy(from.ends, 0, ends, 0, CELLS);
        }

        private boolean isCell(int cell) {
            return cell >= 0 && cell < CELLS && (cell & 7) < wide && cell >> 3 < high;
        }

        private long allCells() {
            long all = 0;
            for (int cell = 0; cell < CELLS; cell++) {
                if (isCell(cell)) {
                    all |= 1L << cell;
                }
            }
            return all;
        }

        private boolean hasSeed(int cell) {
            return isIn(seeds, cell);
        }

        private boolean hasStorm(int cell) {
            return isIn(storms, cell);
        }

        private boolean hasHedge(int cell) {
            return isIn(hedges, cell);
        }

        private boolean isSowable(int cell) {
            return isCell(cell) && !isIn(seeds | hedges, cell);
        }

        private boolean isTurnable(int to) {
            return isWithin(to, 0, 3) && to != wind;
        }

        private boolean veer(int to) {
            if (!isTurnable(to)) {
                return false;
            }
            wind = to;
            return true;
        }

        private boolean putBirds(int v) {
            if (!isWithin(v, 0, MOST_BIRDS)) {
                return false;
            }
            birds = v;
            return true;
        }

        private boolean putWet(int cell, int v) {
            if (!isCell(cell) || !isWithin(v, 0, MOST_WET)) {
                return false;
            }
            wet[cell] = v;
            return true;
        }

        private boolean putHedge(int cell, int v) {
            if (!isCell(cell) || hasSeed(cell) || !isWithin(v, 0, 1)) {
                return false;
            }
            long bit = 1L << cell;
            hedges = v == 1 ? hedges | bit : hedges & ~bit;
            return true;
        }

        private void laySeed(int kind, int cell) {
            if (!isCell(cell)) {
                return;
            }
            seeds |= 1L << cell;
            seedKind[cell] = kind;
            sown[cell] = day;
        }

        private void liftSeed(int cell) {
            seeds &= ~(1L << cell);
        }

        private void raiseStorm(int kind, int cell, int gust, int end) {
            if (!isCell(cell)) {
                return;
            }
            storms |= 1L << cell;
            stormKind[cell] = kind;
            gusts[cell] = gust;
            ends[cell] = end;
        }

        private void endStorm(int cell) {
            storms &= ~(1L << cell);
        }

        private boolean isEdge(int cell) {
            int x = cell & 7;
            int y = cell >> 3;
            return x == 0 || y == 0 || x == wide - 1 || y == high - 1;
        }

        private int downWind(int cell) {
            int x = (cell & 7) + (wind == 1 ? 1 : wind == 3 ? -1 : 0);
            int y = (cell >> 3) + (wind == 2 ? 1 : wind == 0 ? -1 : 0);
            return isWithin(x, 0, wide - 1) && isWithin(y, 0, high - 1) ? 8 * y + x : NONE;
        }

        private int seedsInRow(int y) {
            return isWithin(y, 0, MOST_SIDE) ? Long.bitCount(seeds & 255L << 8 * y) : 0;
        }

        /** A draw of m; 0 if m is none to draw of. */
        private int draw(int m) {
            draws = draws * 1664525 + 1013904223;
            return m > 0 ? (draws >>> 8) % m : 0;
        }
    }

    /** The law as it was told, in a form that is reckoned from left to right over a stack. */
    private static final class Law {
        private static final int VALUES = 8;
        private static final int WET = 1;
        private static final int STORM = 7;
        // Numbers stand as they are; the values of a cell are -1 .. -8; then come the signs.
        private static final int PLUS = -9;
        private static final int MINUS = -10;
        private static final int TIMES = -11;
        private static final int PARTS = -12;
        private static final int LESS = -13;
        private static final int SAME = -14;
        private static final int MORE = -15;
        private static final int AND = -16;
        private static final int OR = -17;
        private static final int NOT = -18;
        // Columns of a line: its word, where E, where B begins, where it ends (B empty: none).
        private static final int WORD = 0;
        private static final int SUM = 1;
        private static final int CONDITION = 2;
        private static final int END = 3;

        private final Table lines = new Table(MOST_LINES);
        private final int[] code = new int[MOST_TAPE];
        private int size;
        private final int[] values = new int[VALUES];
        private final int[] stack = new int[CELLS];

        private void clear() {
            lines.clear();
            size = 0;
        }

        private void copy(Law from) {
            lines.copy(from.lines);
            System.arraycopy(from.code, 0, code, 0, MOST_TAPE);
            size = from.size;
        }

        private void emit(int sign) {
            if (size < MOST_TAPE) {
                code[size] = sign;
                size++;
            }
        }

        private int ask(int word, Land land, int kind, int cell, int soil) {
            observe(land, kind, cell, soil);
            int answer = word == GUST ? 1 + values[WET] / 2 : values[STORM];
            for (int i = 0; i < lines.rows; i++) {
                int condition = lines.of(i, CONDITION);
                int end = lines.of(i, END);
                if (lines.of(i, WORD) == word && (condition == end || reckon(condition, end) != 0)) {
                    answer = reckon(lines.of(i, SUM), condition);
                    break;
                }
            }
            return Math.max(0, Math.min(answer, word == GUST ? MOST_GUST : MOST_HARM));
        }

        private void observe(Land land, int kind, int cell, int soil) {
            boolean isCell = land.isCell(cell);
            values[0] = kind;
            values[WET] = isCell ? land.wet[cell] : 0;
            values[2] = soil;
            values[3] = beside(land.storms, cell);
            values[4] = land.day;
            values[5] = land.isEdge(cell) ? 1 : 0;
            values[6] = beside(land.hedges, cell);
            values[STORM] = isCell && isIn(land.storms, cell) ? land.gusts[cell] : 0;
        }

        private int reckon(int from, int to) {
            int top = 0;
            for (int i = Math.max(0, from); i < to && i < MOST_TAPE; i++) {
                int sign = code[i];
                if (sign > PLUS) {
                    if (top < stack.length) {
                        stack[top] = sign >= 0 ? sign : values[-1 - sign];
                        top++;
                    }
                } else if (sign == NOT) {
                    if (top > 0) {
                        stack[top - 1] = 1 - stack[top - 1];
                    }
                } else if (top > 1) {
                    top--;
                    stack[top - 1] = join(sign, stack[top - 1], stack[top]);
                }
            }
            return stack[0];
        }

        private static int join(int sign, int a, int b) {
            switch (sign) {
                case PLUS: return a + b;
                case MINUS: return a - b;
                case TIMES: return a * b;
                case PARTS: return b == 0 ? 0 : a / b;
                case LESS: return a < b ? 1 : 0;
                case SAME: return a == b ? 1 : 0;
                case MORE: return a > b ? 1 : 0;
                case AND: return a & b;
                case OR: return a | b;
                default: return 0;
            }
        }
    }

    /** What the four texts tell. */
    private static final class Told {
        private final Table kinds = new Table(MOST_KINDS);
        private final Table crossings = new Table(MOST_CROSSINGS);
        private final Law law = new Law();
        private final Table wants = new Table(MOST_WANTS);
        private final Table plan = new Table(MOST_LINES);

        private void forget() {
            kinds.clear();
            crossings.clear();
            law.clear();
            wants.clear();
            plan.clear();
        }

        private void copy(Told from) {
            kinds.copy(from.kinds);
            crossings.copy(from.crossings);
            law.copy(from.law);
            wants.copy(from.wants);
            plan.copy(from.plan);
        }

        private boolean hasKind(int kind) {
            return kinds.hasRow(kind);
        }

        private boolean isSetOfKinds(int set) {
            return (set & -(1 << kinds.rows)) == 0;
        }

        private int crossing(int a, int b) {
            for (int i = 0; i < crossings.rows; i++) {
                int one = crossings.of(i, 0);
                int other = crossings.of(i, 1);
                if (one == a && other == b || one == b && other == a) {
                    return crossings.of(i, CROSS_TO);
                }
            }
            return NONE;
        }

        /** A set of kinds and all that one crossing of them makes. */
        private int nextGeneration(int set) {
            int next = set;
            for (int i = 0; i < crossings.rows; i++) {
                if (isIn(set, crossings.of(i, 0)) && isIn(set, crossings.of(i, 1))) {
                    next |= 1 << crossings.of(i, CROSS_TO);
                }
            }
            return next;
        }
    }

    /** How a day goes. Without a book it is in thought: nothing is written, no bird draws. */
    private static final class Weather {
        private final Told told;
        private final Table book;

        private Weather(Told told, Table book) {
            this.told = told;
            this.book = book;
        }

        private void note(Land land, int what, int cell, int kind) {
            if (book != null) {
                book.add(land.day, what, cell, kind);
            }
        }

        private boolean plant(Land land, int kind, int cell) {
            if (!told.hasKind(kind) || !land.isSowable(cell)) {
                return false;
            }
            land.laySeed(kind, cell);
            note(land, SOWN, cell, kind);
            return true;
        }

        private boolean pull(Land land, int cell) {
            if (!land.isCell(cell) || !land.hasSeed(cell)) {
                return false;
            }
            land.liftSeed(cell);
            note(land, WEEDED, cell, land.seedKind[cell]);
            return true;
        }

        /** A day up to where its storms blow, (a) to (c): how many of them came up. */
        private int dawn(Land land, boolean isPlanned) {
            if (isPlanned) {
                followPlan(land);
            }
            int up = 0;
            for (int cell = 0; cell < CELLS; cell++) {
                if (land.hasSeed(cell)
                        && land.day - land.sown[cell] >= told.kinds.of(land.seedKind[cell], SOIL)
                        && comesUp(land, cell)) {
                    up++;
                }
            }
            blow(land);
            return up;
        }

        /** What is left of a day, (d) to (f). */
        private void dusk(Land land) {
            for (int cell = 0; cell < CELLS; cell++) {
                if (land.hasStorm(cell) && land.ends[cell] <= land.day) {
                    land.endStorm(cell);
                    note(land, GONE, cell, land.stormKind[cell]);
                    scatter(land, land.stormKind[cell], cell);
                }
            }
            if (book != null && land.birds > 0 && told.kinds.rows > 0) {
                letBirdsDrop(land);
            }
            land.day++;
        }

        private void followPlan(Land land) {
            for (int i = 0; i < told.plan.rows; i++) {
                if (told.plan.of(i, PLAN_DAY) != land.day) {
                    continue;
                }
                int deed = told.plan.of(i, PLAN_DEED);
                int value = told.plan.of(i, PLAN_VALUE);
                int cell = told.plan.of(i, PLAN_CELL);
                if (deed == SOWN) {
                    plant(land, value, cell);
                } else if (deed == WEEDED) {
                    pull(land, cell);
                } else {
                    land.veer(value);
                }
            }
        }

        private boolean comesUp(Land land, int cell) {
            if (!land.isCell(cell)) {
                return false;
            }
            int kind = land.seedKind[cell];
            land.liftSeed(cell);
            int gust = told.law.ask(GUST, land, kind, cell, land.day - land.sown[cell]);
            int there = land.hasStorm(cell) ? land.gusts[cell] : 0;
            int crossed = there > 0 ? told.crossing(land.stormKind[cell], kind) : NONE;
            if (gust == 0 || crossed == NONE && gust < there) {
                note(land, DID_NOT, cell, kind);
                return false;
            }
            if (crossed != NONE) {
                kind = crossed;
                gust = Math.min(MOST_GUST, Math.max(gust, there) + 1);
            }
            land.raiseStorm(kind, cell, gust, land.day + told.kinds.of(kind, LASTS) - 1);
            note(land, CAME_UP, cell, kind);
            return true;
        }

        private void blow(Land land) {
            int more = 0;
            for (int cell = 0; cell < CELLS; cell++) {
                if (land.hasStorm(cell)) {
                    more += told.law.ask(HARM, land, land.stormKind[cell], cell, 0);
                }
            }
            land.harm += more;
            boolean isDry = land.day % 2 == 0;
            for (int cell = 0; cell < CELLS; cell++) {
                int wet = land.wet[cell];
                if (land.hasStorm(cell)) {
                    land.wet[cell] = Math.min(MOST_WET, wet + Math.max(1, land.gusts[cell] / 3));
                } else if (isDry) {
                    land.wet[cell] = Math.max(0, wet - 1);
                }
            }
        }

        private void scatter(Land land, int kind, int from) {
            int cell = from;
            int spread = told.kinds.of(kind, SPREAD);
            for (int i = 0; i < spread; i++) {
                cell = land.downWind(cell);
                if (cell == NONE || land.hasHedge(cell)) {
                    return;
                }
                if (!land.hasSeed(cell) && !land.hasStorm(cell)) {
                    land.laySeed(kind, cell);
                    note(land, FELL, cell, kind);
                }
            }
        }

        private void letBirdsDrop(Land land) {
            if (land.wide < LEAST_SIDE || land.draw(1000) >= land.birds) {
                return;
            }
            int place = land.draw(land.wide * land.high);
            int kind = land.draw(told.kinds.rows);
            int cell = 8 * (place / land.wide) + place % land.wide;
            if (land.isSowable(cell) && !land.hasStorm(cell)) {
                land.laySeed(kind, cell);
                note(land, BY_BIRDS, cell, kind);
            }
        }
    }

    /** What would be, on a land of its own that starts as the true one is. */
    private static final class Thought {
        private final Told told;
        private final Land land;
        private final Land mind = new Land();
        private final Weather weather;

        private Thought(Told told, Land land) {
            this.told = told;
            this.land = land;
            weather = new Weather(told, null);
        }

        /** The land on the n-th day from now, behind (c). */
        private Land blowing(int n) {
            mind.copy(land);
            thinkOn(n);
            return mind;
        }

        private void thinkOn(int n) {
            weather.dawn(mind, true);
            for (int i = 1; i < n; i++) {
                weather.dusk(mind);
                weather.dawn(mind, true);
            }
        }

        private boolean isMet(int want) {
            int kind = told.wants.of(want, WANT_KIND);
            int cell = told.wants.of(want, WANT_CELL);
            if (!mind.isCell(cell) || !mind.hasStorm(cell)) {
                return kind == NONE;
            }
            return mind.stormKind[cell] == kind;
        }

        /** The worth of all wants that are met, or the first that is not. */
        private int meeting(boolean isWorthAsked) {
            int last = NONE;
            for (int i = 0; i < told.wants.rows; i++) {
                last = Math.max(last, told.wants.of(i, WANT_DAY));
            }
            mind.copy(land);
            int worth = 0;
            for (int day = land.day; day <= last; day++) {
                weather.dawn(mind, true);
                for (int i = 0; i < told.wants.rows; i++) {
                    if (told.wants.of(i, WANT_DAY) != day) {
                        continue;
                    }
                    if (isMet(i)) {
                        worth += told.wants.of(i, WANT_WORTH);
                    } else if (!isWorthAsked) {
                        return i;
                    }
                }
                weather.dusk(mind);
            }
            return isWorthAsked ? worth : NONE;
        }

        /** Of the seed that meets a want on the n-th day: what 0 its kind, 1 its cell, 2 the harm. */
        private int bestSeed(int want, int n, int what) {
            int bestKind = NONE;
            int bestCell = NONE;
            int leastHarm = NONE;
            for (int kind = 0; kind < told.kinds.rows; kind++) {
                for (int cell = 0; cell < CELLS; cell++) {
                    if (!land.isSowable(cell)) {
                        continue;
                    }
                    mind.copy(land);
                    mind.laySeed(kind, cell);
                    thinkOn(n);
                    int harm = mind.harm - land.harm;
                    if (isMet(want) && (bestKind == NONE || harm < leastHarm)) {
                        bestKind = kind;
                        bestCell = cell;
                        leastHarm = harm;
                    }
                }
            }
            return what == 0 ? bestKind : what == 1 ? bestCell : leastHarm;
        }

        private int getting(int kind, int from, int to) {
            mind.copy(land);
            mind.clearSeedsAndStorms();
            mind.laySeed(kind, from);
            for (int i = 1; i <= GETS_DAYS; i++) {
                weather.dawn(mind, false);
                if (mind.hasStorm(to)) {
                    return i;
                }
                weather.dusk(mind);
            }
            return NONE;
        }

        /** The set of the fewest seeds to be weeded; NONE if none helps. */
        private long fewestWeeds(long cells, int n) {
            int seeds = Math.min(MOST_WEEDS, Long.bitCount(land.seeds));
            for (int few = 0; few <= seeds; few++) {
                // Choices grow with the sets that they stand for, so the first is the least.
                for (int choice = 0; choice < 1 << seeds; choice++) {
                    if (Integer.bitCount(choice) != few) {
                        continue;
                    }
                    long weeded = chosenSeeds(choice);
                    if (staysCalm(weeded, cells, n)) {
                        return weeded;
                    }
                }
            }
            return NONE;
        }

        /** Those seeds whose number, by cells, is in a choice. */
        private long chosenSeeds(int choice) {
            long chosen = 0;
            int number = 0;
            for (int cell = 0; cell < CELLS; cell++) {
                if (land.hasSeed(cell)) {
                    if (isIn(choice, number)) {
                        chosen |= 1L << cell;
                    }
                    number++;
                }
            }
            return chosen;
        }

        private boolean staysCalm(long weeded, long cells, int n) {
            mind.copy(land);
            mind.seeds &= ~weeded;
            for (int i = 0; i < n; i++) {
                weather.dawn(mind, true);
                if ((mind.storms & cells) != 0) {
                    return false;
                }
                weather.dusk(mind);
            }
            return true;
        }

        /** The longest row of days without a storm at a cell, or its first day. */
        private int longestCalm(int cell, int n, boolean isLengthAsked) {
            mind.copy(land);
            int longest = 0;
            int first = NONE;
            int row = 0;
            for (int i = 0; i < n; i++) {
                weather.dawn(mind, true);
                row = mind.hasStorm(cell) ? 0 : row + 1;
                if (row > longest) {
                    longest = row;
                    first = mind.day - row + 1;
                }
                weather.dusk(mind);
            }
            return isLengthAsked ? longest : first;
        }
    }

    /** What can be undone: the land ahead of each of the latest deeds, and the book's lines. */
    private static final class History {
        private final Land[] lands = new Land[KEPT];
        private final int[] lines = new int[KEPT];
        private int oldest;
        private int kept;

        private History() {
            for (int i = 0; i < KEPT; i++) {
                lands[i] = new Land();
            }
        }

        private void forget() {
            kept = 0;
        }

        private void keep(Land land, Table book) {
            if (kept == KEPT) {
                oldest = (oldest + 1) % KEPT;
                kept--;
            }
            int slot = (oldest + kept) % KEPT;
            Land copy = lands[slot];
            if (copy != null) {
                copy.copy(land);
            }
            lines[slot] = book.rows;
            kept++;
        }

        private boolean goBack(Land land, Table book) {
            if (kept == 0) {
                return false;
            }
            kept--;
            int slot = (oldest + kept) % KEPT;
            Land copy = lands[slot];
            if (copy != null) {
                land.copy(copy);
            }
            book.cut(lines[slot]);
            return true;
        }
    }

    /** The tape, its tokens, and how far a text has been read without a fault. */
    private static final class Tape {
        private static final int END = 0;
        private static final int LETTERS = 1;
        private static final int DIGITS = 2;
        private static final int SIGN = 3;
        private static final int BLANK = 4;
        private static final int UNREAD = 5;
        private static final int MOST_DIGITS = 4;

        private final int[] bytes = new int[MOST_TAPE];
        private int size;
        private final int[] sorts = new int[MOST_TAPE + 1];
        private final int[] starts = new int[MOST_TAPE + 1];
        private final int[] numbers = new int[MOST_TAPE + 1];
        private int tokens;
        private int token;
        private int sort = UNREAD;
        private int fault;
        private int faultPlace = NONE;

        private boolean hasRoom(int n) {
            return size + n <= MOST_TAPE;
        }

        private void append(int number) {
            if (!hasRoom(4)) {
                return;
            }
            for (int shift = 24; shift >= 0; shift -= 8) {
                bytes[size] = number >>> shift & 255;
                size++;
            }
        }

        private void begin() {
            fault = 0;
            faultPlace = NONE;
            token = 0;
            tokens = 0;
            int from = 0;
            for (int i = 0; i < MOST_TAPE && from < size; i++) {
                int next = sortOf(bytes[from]);
                int to = from + 1;
                while (to < size && (next == LETTERS || next == DIGITS) && sortOf(bytes[to]) == next) {
                    to++;
                }
                if (next != BLANK) {
                    putToken(next, from, next == DIGITS ? numberOf(from, to) : to - from);
                }
                from = to;
            }
            putToken(END, size, 0);
            sort = sorts[0];
        }

        /** A token: of digits its number (NONE if there are too many), else its length. */
        private void putToken(int itsSort, int start, int number) {
            if (tokens <= MOST_TAPE) {
                sorts[tokens] = itsSort;
                starts[tokens] = start;
                numbers[tokens] = number;
                tokens++;
            }
        }

        private static int sortOf(int sign) {
            if (sign == ' ' || sign == '\n') {
                return BLANK;
            }
            if (sign >= '0' && sign <= '9') {
                return DIGITS;
            }
            return sign >= 'a' && sign <= 'z' || sign >= 'A' && sign <= 'Z' ? LETTERS : SIGN;
        }

        private int numberOf(int from, int to) {
            if (to - from > MOST_DIGITS) {
                return NONE;
            }
            int number = 0;
            for (int i = from; i < to && i < MOST_TAPE; i++) {
                number = 10 * number + bytes[i] - '0';
            }
            return number;
        }

        private boolean goesOn() {
            return fault == 0 && sort != END;
        }

        private void advance() {
            if (token + 1 < tokens && token < MOST_TAPE) {
                token++;
                sort = sorts[token];
            }
        }

        /** Only the first fault counts: after it no token is of any sort, so nothing more is read. */
        private void fail(int what) {
            if (fault == 0) {
                fault = what;
                faultPlace = token < tokens && token <= MOST_TAPE ? starts[token] : size;
                sort = UNREAD;
            }
        }

        private boolean hasWord(String word) {
            if (sort != LETTERS || token > MOST_TAPE || numbers[token] != word.length()) {
                return false;
            }
            int start = starts[token];
            for (int i = 0; i < word.length() && start + i < MOST_TAPE; i++) {
                if (bytes[start + i] != word.charAt(i)) {
                    return false;
                }
            }
            return true;
        }

        private boolean hasSign(char sign) {
            return sort == SIGN && token <= MOST_TAPE && starts[token] < MOST_TAPE
                    && bytes[starts[token]] == sign;
        }

        private boolean takesWord(String word) {
            boolean has = hasWord(word);
            if (has) {
                advance();
            }
            return has;
        }

        private boolean takesSign(char sign) {
            boolean has = hasSign(sign);
            if (has) {
                advance();
            }
            return has;
        }

        /** The word that begins a line; that there is no room for the line is its own fault. */
        private boolean takesHead(String word, Table lines) {
            if (!hasWord(word)) {
                return false;
            }
            if (lines.isFull()) {
                fail(TOO_MANY);
            } else {
                advance();
            }
            return true;
        }

        private void needWord(String word) {
            if (!takesWord(word)) {
                fail(MISPLACED);
            }
        }

        private void needSign(char sign) {
            if (!takesSign(sign)) {
                fail(MISPLACED);
            }
        }

        private int peekNumber() {
            return sort == DIGITS && token <= MOST_TAPE ? numbers[token] : NONE;
        }

        private int needNumber(int least, int most) {
            int number = peekNumber();
            if (number == NONE) {
                fail(MISPLACED);
                return 0;
            }
            if (number < least || number > most) {
                fail(BEYOND);
                return 0;
            }
            advance();
            return number;
        }
    }

    /** Reads the four texts into a draft, which is told only if there is no fault. */
    private static final class Reader {
        private static final int MOST_OPEN = 8;

        private final Tape tape;
        private final Told told;
        private final Land land;
        private final Told draft = new Told();

        private Reader(Tape tape, Told told, Land land) {
            this.tape = tape;
            this.told = told;
            this.land = land;
        }

        private int readKinds() {
            draft.kinds.clear();
            draft.crossings.clear();
            for (int i = 0; i < MOST_TAPE && tape.goesOn(); i++) {
                if (tape.takesHead("kind", draft.kinds)) {
                    readKind();
                } else if (tape.takesHead("cross", draft.crossings)) {
                    readCrossing();
                } else {
                    tape.fail(MISPLACED);
                }
            }
            if (tape.fault != 0) {
                return NONE;
            }
            told.kinds.copy(draft.kinds);
            told.crossings.copy(draft.crossings);
            return told.kinds.rows + told.crossings.rows;
        }

        private void readKind() {
            int soil = tape.needNumber(1, 20);
            tape.needWord("lasts");
            int lasts = tape.needNumber(1, 9);
            tape.needWord("spread");
            int spread = tape.needNumber(0, 6);
            tape.needSign(';');
            if (tape.fault == 0) {
                draft.kinds.add(soil, lasts, spread, 0);
            }
        }

        private void readCrossing() {
            int a = needKind(draft.kinds);
            tape.needWord("with");
            int b = needKind(draft.kinds);
            tape.needWord("to");
            int to = needKind(draft.kinds);
            tape.needSign(';');
            if (tape.fault == 0) {
                draft.crossings.add(a, b, to, 0);
            }
        }

        private int readWants() {
            draft.wants.clear();
            for (int i = 0; i < MOST_TAPE && tape.goesOn(); i++) {
                if (!tape.takesHead("want", draft.wants)) {
                    tape.fail(MISPLACED);
                }
                int kind = tape.takesWord("calm") ? NONE : needKind(told.kinds);
                tape.needWord("at");
                int cell = needCell();
                tape.needWord("on");
                int day = tape.needNumber(0, LAST_DAY);
                tape.needWord("worth");
                int worth = tape.needNumber(1, 99);
                tape.needSign(';');
                if (tape.fault == 0) {
                    draft.wants.add(kind, cell, day, worth);
                }
            }
            if (tape.fault != 0) {
                return NONE;
            }
            told.wants.copy(draft.wants);
            return told.wants.rows;
        }

        private int readPlan() {
            draft.plan.clear();
            for (int i = 0; i < MOST_TAPE && tape.goesOn(); i++) {
                if (!tape.takesHead("on", draft.plan)) {
                    tape.fail(MISPLACED);
                }
                readDeed(tape.needNumber(0, LAST_DAY));
            }
            if (tape.fault != 0) {
                return NONE;
            }
            told.plan.copy(draft.plan);
            return told.plan.rows;
        }

        private void readDeed(int day) {
            int deed = TURNED;
            int value = NONE;
            int cell = NONE;
            if (tape.takesWord("sow")) {
                deed = SOWN;
                value = needKind(told.kinds);
                tape.needWord("at");
                cell = needCell();
            } else if (tape.takesWord("weed")) {
                deed = WEEDED;
                cell = needCell();
            } else {
                value = needWind();
            }
            tape.needSign(';');
            if (tape.fault == 0) {
                draft.plan.add(day, deed, value, cell);
            }
        }

        private int needWind() {
            if (tape.takesWord("north")) {
                return 0;
            }
            if (tape.takesWord("east")) {
                return 1;
            }
            if (tape.takesWord("south")) {
                return 2;
            }
            tape.needWord("west");
            return 3;
        }

        private int needKind(Table kinds) {
            return tape.needNumber(0, kinds.rows - 1);
        }

        private int needCell() {
            return tape.needNumber(0, land.isCell(tape.peekNumber()) ? CELLS - 1 : NONE);
        }

        private int readLaw() {
            Law law = draft.law;
            law.clear();
            for (int i = 0; i < MOST_TAPE && tape.goesOn(); i++) {
                int word = tape.takesHead("gust", law.lines) ? GUST : HARM;
                if (word == HARM && !tape.takesHead("harm", law.lines)) {
                    tape.fail(MISPLACED);
                }
                int sum = law.size;
                readSum();
                int condition = law.size;
                if (tape.takesWord("when")) {
                    readCondition(0);
                }
                tape.needSign(';');
                if (tape.fault == 0) {
                    law.lines.add(word, sum, condition, law.size);
                }
            }
            if (tape.fault != 0) {
                return NONE;
            }
            told.law.copy(law);
            return law.lines.rows;
        }

        /** E: what is joined by * and / is over ahead of the + or - that waits for it. */
        private void readSum() {
            int waiting = 0;
            readUnit();
            for (int i = 0; i < MOST_TAPE; i++) {
                if (tape.takesSign('*')) {
                    readUnit();
                    draft.law.emit(Law.TIMES);
                } else if (tape.takesSign('/')) {
                    draft.law.emit(tape.needNumber(1, MOST_NUMBER));
                    draft.law.emit(Law.PARTS);
                } else {
                    if (waiting != 0) {
                        draft.law.emit(waiting);
                    }
                    waiting = tape.takesSign('+') ? Law.PLUS : tape.takesSign('-') ? Law.MINUS : 0;
                    if (waiting == 0) {
                        return;
                    }
                    readUnit();
                }
            }
        }

        private void readUnit() {
            for (int i = 0; i < Law.VALUES; i++) {
                if (tape.takesWord(valueWord(i))) {
                    draft.law.emit(-1 - i);
                    return;
                }
            }
            draft.law.emit(tape.needNumber(0, MOST_NUMBER));
        }

        private static String valueWord(int i) {
            switch (i) {
                case 0: return "kind";
                case 1: return "wet";
                case 2: return "soil";
                case 3: return "beside";
                case 4: return "day";
                case 5: return "edge";
                case 6: return "hedges";
                default: return "storm";
            }
        }

        /** B: what is joined by "and" is over ahead of the "or" that waits for it. */
        private void readCondition(int open) {
            boolean isWaiting = false;
            readPart(open);
            for (int i = 0; i < MOST_TAPE; i++) {
                if (tape.takesWord("and")) {
                    readPart(open);
                    draft.law.emit(Law.AND);
                } else {
                    if (isWaiting) {
                        draft.law.emit(Law.OR);
                    }
                    isWaiting = tape.takesWord("or");
                    if (!isWaiting) {
                        return;
                    }
                    readPart(open);
                }
            }
        }

        /** C, within as many ( and not as are open. */
        private void readPart(int open) {
            boolean isNot = tape.hasWord("not");
            if (!isNot && !tape.hasSign('(')) {
                readSum();
                int sign = takeComparison();
                readSum();
                draft.law.emit(sign);
            } else if (open >= MOST_OPEN) {
                tape.fail(TOO_MANY);
            } else if (isNot) {
                tape.needWord("not");
                readPart(open + 1);
                draft.law.emit(Law.NOT);
            } else {
                tape.needSign('(');
                readCondition(open + 1);
                tape.needSign(')');
            }
        }

        private int takeComparison() {
            if (tape.takesSign('<')) {
                return Law.LESS;
            }
            if (tape.takesSign('=')) {
                return Law.SAME;
            }
            tape.needSign('>');
            return Law.MORE;
        }
    }
}
